/-! the law: one call of each kind on both sides (printed by wip/whole/gen/p45.py) -/
theorem fst_Md {E : Ev} {a : Nat → Nat} {μ μ2 : N2} {v v2 : UInt32} : (wMd E a μ v).map Prod.fst = (wMd E a μ2 v2).map Prod.fst := rfl
/-- the law's world -/
def lwW (E : Ev) (h k j : Nat) (a1 a2 a3 ah a5 am : Nat → Nat) (hh : Nat → Nat → Nat) (hs : Int32) (σ σn σr : N2) (ny : Int32) (o : Nat) (η : Nat → N2) (t : N2) (z : N1) (sp : UInt32) (d : N1) (μ : N2) (sp2 : UInt32) : va_W := wHb h (a1 0) (a2 0) (a3 0) (ah 0) (a5 0) k hs ++ (wSt E a1 σ ++ (wSt E a2 σn ++ (wSt E a3 σr ++ (wHs E ah hh ny o η ++ (wTx E a5 t ++ (wSh k j z sp ++ (wWk j d ++ wMd E am μ sp2)))))))
/-- what goes on behind a call -/
def NX (p : Program) (l : Launch) (e : Env) (s : State) (m : MethodId) (b : Nat) (below : List Frame) (meth : Method) (c : Code) (E : Ev) (h k j : Nat) (a1 a2 a3 ah a5 am : Nat → Nat) (hh : Nat → Nat → Nat) (i : Nat) : Prop := ∀ (hs : Int32) (σ σn σr : N2) (ny : Int32) (o : Nat) (η : Nat → N2) (t : N2) (z : N1) (sp : UInt32) (d : N1) (μ : N2) (sp2 : UInt32) (H : Heap) (locs : List Loc) (ls : Array Slot), REL hs σ σn ny o η t μ → Wd E (lwA s) s (wHb h (a1 0) (a2 0) (a3 0) (ah 0) (a5 0) k hs ++ (wSt E a1 σ ++ (wSt E a2 σn ++ (wSt E a3 σr ++ (wHs E ah hh ny o η ++ (wTx E a5 t ++ (wSh k j z sp ++ (wWk j d ++ wMd E am μ sp2)))))))) H locs → lv_has ls 8 [(3, .int (nI i)), (2, .ref (am 0)), (1, .ref h), (0, .ref b)] → W p l e room_1 s m #[Value.ref b] below meth c H locs 82 1976 (lw_Z below #[Value.ref b] s) (F0 m 833 ls [])
section LW
variable {p : Program} {l : Launch} {e : Env} {s : State} {m : MethodId} {b L : Nat} {xs : Nat → Int32} {below : List Frame} {meth : Method} {c : Code} {E : Ev} {h k j : Nat} {a1 a2 a3 ah a5 am : Nat → Nat} {hh : Nat → Nat → Nat} {i : Nat}
variable {hs : Int32} {σ σn σr : N2} {ny : Int32} {o : Nat} {η : Nat → N2} {t : N2} {z : N1} {sp : UInt32} {d : N1} {μ : N2} {sp2 : UInt32} {H : Heap} {locs : List Loc} {ls : Array Slot}
theorem dL_law_132 : decode code 132 = .ok (.aload_n 1, 1) := by decide +kernel
theorem dL_law_133 : decode code 133 = .ok (.aload_n 0, 1) := by decide +kernel
theorem dL_law_134 : decode code 134 = .ok (.iload_n 3, 1) := by decide +kernel
theorem dL_law_135 : decode code 135 = .ok (.iconst 1, 1) := by decide +kernel
theorem dL_law_136 : decode code 136 = .ok (.iadd, 1) := by decide +kernel
theorem dL_law_137 : decode code 137 = .ok (.iaload, 1) := by decide +kernel
theorem dL_law_138 : decode code 138 = .ok (.aload_n 0, 1) := by decide +kernel
theorem dL_law_139 : decode code 139 = .ok (.iload_n 3, 1) := by decide +kernel
theorem dL_law_140 : decode code 140 = .ok (.iconst 2, 1) := by decide +kernel
theorem dL_law_141 : decode code 141 = .ok (.iadd, 1) := by decide +kernel
theorem dL_law_142 : decode code 142 = .ok (.iaload, 1) := by decide +kernel
theorem dL_law_143 : decode code 143 = .ok (.invokevirtual 13, 3) := by decide +kernel
theorem dL_law_146 : decode code 146 = .ok (.aload_n 2, 1) := by decide +kernel
theorem dL_law_147 : decode code 147 = .ok (.aload_n 0, 1) := by decide +kernel
theorem dL_law_148 : decode code 148 = .ok (.iload_n 3, 1) := by decide +kernel
theorem dL_law_149 : decode code 149 = .ok (.iconst 1, 1) := by decide +kernel
theorem dL_law_150 : decode code 150 = .ok (.iadd, 1) := by decide +kernel
theorem dL_law_151 : decode code 151 = .ok (.iaload, 1) := by decide +kernel
theorem dL_law_152 : decode code 152 = .ok (.aload_n 0, 1) := by decide +kernel
theorem dL_law_153 : decode code 153 = .ok (.iload_n 3, 1) := by decide +kernel
theorem dL_law_154 : decode code 154 = .ok (.iconst 2, 1) := by decide +kernel
theorem dL_law_155 : decode code 155 = .ok (.iadd, 1) := by decide +kernel
theorem dL_law_156 : decode code 156 = .ok (.iaload, 1) := by decide +kernel
theorem dL_law_157 : decode code 157 = .ok (.invokevirtual 17, 3) := by decide +kernel
theorem dL_law_160 : decode code 160 = .ok (.if_icmp .eq 673, 3) := by decide +kernel
theorem ck_L_13 : CkV RL 13 RX6 yX6_put cX6_put 4 (some .int) 2 := ⟨wm_L_13, wim_yX6_put, wse_yX6_put, wi_X6, wc_yX6_put, by decide +kernel⟩
theorem ck_L_17 : CkV RL 17 RX7 yX7_put cX7_put 4 (some .int) 2 := ⟨wm_L_17, wim_yX7_put, wse_yX7_put, wi_X7, wc_yX7_put, by decide +kernel⟩
theorem hc_114 {E : Ev} {a0 p0_0 p0_1 p0_2 p0_3 p0_4 p0_5 : Nat} {n0 : Int32} {a1 : Nat → Nat} {σ1 : N2} {a2 : Nat → Nat} {σ2 : N2} {a3 : Nat → Nat} {σ3 : N2} {a4 : Nat → Nat} {h4 : Nat → Nat → Nat} {n4 : Int32} {η4 : Nat → N2} {o4 : Nat} {a5 : Nat → Nat} {σ5 : N2} {a6 j6 : Nat} {σ6 : N1} {v6 : UInt32} {a7 : Nat} {σ7 : N1} {a8 : Nat → Nat} {σ8 : N2} {v8 : UInt32} : ([0, 1, 2, 3, 4, 5, 6, 7, 8, 9, 28, 29, 30, 31, 32, 33, 34, 35, 36, 37, 38, 39, 40, 41, 42, 43, 44, 45, 46, 47, 48, 49, 50, 51, 52, 53, 54, 55, 56, 57, 58, 59, 60, 61, 62, 63, 64, 65] : List Nat).map (fun i => (wHb a0 p0_0 p0_1 p0_2 p0_3 p0_4 p0_5 n0 ++ (wSt E a1 σ1 ++ (wSt E a2 σ2 ++ (wSt E a3 σ3 ++ (wHs E a4 h4 n4 o4 η4 ++ (wTx E a5 σ5 ++ (wSh a6 j6 σ6 v6 ++ (wWk a7 σ7 ++ wMd E a8 σ8 v8))))))))[i]?) = (wHb a0 p0_0 p0_1 p0_2 p0_3 p0_4 p0_5 n0 ++ (wSt E a1 σ1 ++ wHs E a4 h4 n4 o4 η4)).map some := get_app (is1 := rg 0 1) (is2 := rg 1 9 ++ (rg 28 38)) (by rw [show wHb a0 p0_0 p0_1 p0_2 p0_3 p0_4 p0_5 n0 ++ (wSt E a1 σ1 ++ (wSt E a2 σ2 ++ (wSt E a3 σ3 ++ (wHs E a4 h4 n4 o4 η4 ++ (wTx E a5 σ5 ++ (wSh a6 j6 σ6 v6 ++ (wWk a7 σ7 ++ (wMd E a8 σ8 v8)))))))) = ([] : va_W) ++ (wHb a0 p0_0 p0_1 p0_2 p0_3 p0_4 p0_5 n0 ++ (wSt E a1 σ1 ++ (wSt E a2 σ2 ++ (wSt E a3 σ3 ++ (wHs E a4 h4 n4 o4 η4 ++ (wTx E a5 σ5 ++ (wSh a6 j6 σ6 v6 ++ (wWk a7 σ7 ++ (wMd E a8 σ8 v8))))))))) by simp only [List.append_assoc, List.nil_append, List.append_nil]]; exact get1 (s := 0) (n := 1) rfl rfl) (get_app (is1 := rg 1 9) (is2 := rg 28 38) (by rw [show wHb a0 p0_0 p0_1 p0_2 p0_3 p0_4 p0_5 n0 ++ (wSt E a1 σ1 ++ (wSt E a2 σ2 ++ (wSt E a3 σ3 ++ (wHs E a4 h4 n4 o4 η4 ++ (wTx E a5 σ5 ++ (wSh a6 j6 σ6 v6 ++ (wWk a7 σ7 ++ (wMd E a8 σ8 v8)))))))) = (wHb a0 p0_0 p0_1 p0_2 p0_3 p0_4 p0_5 n0) ++ (wSt E a1 σ1 ++ (wSt E a2 σ2 ++ (wSt E a3 σ3 ++ (wHs E a4 h4 n4 o4 η4 ++ (wTx E a5 σ5 ++ (wSh a6 j6 σ6 v6 ++ (wWk a7 σ7 ++ (wMd E a8 σ8 v8)))))))) by simp only [List.append_assoc, List.nil_append, List.append_nil]]; exact get1 (s := 1) (n := 9) rfl rfl) ((by rw [show wHb a0 p0_0 p0_1 p0_2 p0_3 p0_4 p0_5 n0 ++ (wSt E a1 σ1 ++ (wSt E a2 σ2 ++ (wSt E a3 σ3 ++ (wHs E a4 h4 n4 o4 η4 ++ (wTx E a5 σ5 ++ (wSh a6 j6 σ6 v6 ++ (wWk a7 σ7 ++ (wMd E a8 σ8 v8)))))))) = (wHb a0 p0_0 p0_1 p0_2 p0_3 p0_4 p0_5 n0 ++ (wSt E a1 σ1 ++ (wSt E a2 σ2 ++ (wSt E a3 σ3)))) ++ (wHs E a4 h4 n4 o4 η4 ++ (wTx E a5 σ5 ++ (wSh a6 j6 σ6 v6 ++ (wWk a7 σ7 ++ (wMd E a8 σ8 v8))))) by simp only [List.append_assoc, List.nil_append, List.append_nil]]; exact get1 (s := 28) (n := 38) rfl rfl)))
theorem ha_114 {E : Ev} {a0 p0_0 p0_1 p0_2 p0_3 p0_4 p0_5 : Nat} {n0 : Int32} {a1 : Nat → Nat} {σ1 : N2} {a4 : Nat → Nat} {h4 : Nat → Nat → Nat} {n4 : Int32} {η4 : Nat → N2} {o4 : Nat} {τ0_0 : Int32} {τ1_0 : N2} {τ2_0 : Int32} {τ2_1 : Nat} {τ2_2 : Nat → N2} : (wHb a0 p0_0 p0_1 p0_2 p0_3 p0_4 p0_5 τ0_0 ++ (wSt E a1 τ1_0 ++ wHs E a4 h4 τ2_0 τ2_1 τ2_2)).map Prod.fst = (wHb a0 p0_0 p0_1 p0_2 p0_3 p0_4 p0_5 n0 ++ (wSt E a1 σ1 ++ wHs E a4 h4 n4 o4 η4)).map Prod.fst := fst_app fst_Hb (fst_app fst_St (fst_Hs))
theorem hw_114 {E : Ev} {a0 p0_0 p0_1 p0_2 p0_3 p0_4 p0_5 : Nat} {n0 : Int32} {a1 : Nat → Nat} {σ1 : N2} {a2 : Nat → Nat} {σ2 : N2} {a3 : Nat → Nat} {σ3 : N2} {a4 : Nat → Nat} {h4 : Nat → Nat → Nat} {n4 : Int32} {η4 : Nat → N2} {o4 : Nat} {a5 : Nat → Nat} {σ5 : N2} {a6 j6 : Nat} {σ6 : N1} {v6 : UInt32} {a7 : Nat} {σ7 : N1} {a8 : Nat → Nat} {σ8 : N2} {v8 : UInt32} {τ0_0 : Int32} {τ1_0 : N2} {τ2_0 : Int32} {τ2_1 : Nat} {τ2_2 : Nat → N2} : wput (wHb a0 p0_0 p0_1 p0_2 p0_3 p0_4 p0_5 n0 ++ (wSt E a1 σ1 ++ (wSt E a2 σ2 ++ (wSt E a3 σ3 ++ (wHs E a4 h4 n4 o4 η4 ++ (wTx E a5 σ5 ++ (wSh a6 j6 σ6 v6 ++ (wWk a7 σ7 ++ wMd E a8 σ8 v8)))))))) [0, 1, 2, 3, 4, 5, 6, 7, 8, 9, 28, 29, 30, 31, 32, 33, 34, 35, 36, 37, 38, 39, 40, 41, 42, 43, 44, 45, 46, 47, 48, 49, 50, 51, 52, 53, 54, 55, 56, 57, 58, 59, 60, 61, 62, 63, 64, 65] (wHb a0 p0_0 p0_1 p0_2 p0_3 p0_4 p0_5 τ0_0 ++ (wSt E a1 τ1_0 ++ wHs E a4 h4 τ2_0 τ2_1 τ2_2)) = wHb a0 p0_0 p0_1 p0_2 p0_3 p0_4 p0_5 τ0_0 ++ (wSt E a1 τ1_0 ++ (wSt E a2 σ2 ++ (wSt E a3 σ3 ++ (wHs E a4 h4 τ2_0 τ2_1 τ2_2 ++ (wTx E a5 σ5 ++ (wSh a6 j6 σ6 v6 ++ (wWk a7 σ7 ++ wMd E a8 σ8 v8))))))) := by
  show wput (wHb a0 p0_0 p0_1 p0_2 p0_3 p0_4 p0_5 n0 ++ (wSt E a1 σ1 ++ (wSt E a2 σ2 ++ (wSt E a3 σ3 ++ (wHs E a4 h4 n4 o4 η4 ++ (wTx E a5 σ5 ++ (wSh a6 j6 σ6 v6 ++ (wWk a7 σ7 ++ (wMd E a8 σ8 v8))))))))) (rg 0 1 ++ (rg 1 9 ++ (rg 28 38))) (wHb a0 p0_0 p0_1 p0_2 p0_3 p0_4 p0_5 τ0_0 ++ (wSt E a1 τ1_0 ++ wHs E a4 h4 τ2_0 τ2_1 τ2_2)) = _
  rw [wput_app rfl]
  rw [show wHb a0 p0_0 p0_1 p0_2 p0_3 p0_4 p0_5 n0 ++ (wSt E a1 σ1 ++ (wSt E a2 σ2 ++ (wSt E a3 σ3 ++ (wHs E a4 h4 n4 o4 η4 ++ (wTx E a5 σ5 ++ (wSh a6 j6 σ6 v6 ++ (wWk a7 σ7 ++ (wMd E a8 σ8 v8)))))))) = ([] : va_W) ++ (wHb a0 p0_0 p0_1 p0_2 p0_3 p0_4 p0_5 n0 ++ (wSt E a1 σ1 ++ (wSt E a2 σ2 ++ (wSt E a3 σ3 ++ (wHs E a4 h4 n4 o4 η4 ++ (wTx E a5 σ5 ++ (wSh a6 j6 σ6 v6 ++ (wWk a7 σ7 ++ (wMd E a8 σ8 v8))))))))) by simp only [List.append_assoc, List.nil_append, List.append_nil], put1 (s := 0) (n := 1) rfl rfl rfl]
  rw [wput_app rfl]
  rw [show ([] : va_W) ++ (wHb a0 p0_0 p0_1 p0_2 p0_3 p0_4 p0_5 τ0_0 ++ (wSt E a1 σ1 ++ (wSt E a2 σ2 ++ (wSt E a3 σ3 ++ (wHs E a4 h4 n4 o4 η4 ++ (wTx E a5 σ5 ++ (wSh a6 j6 σ6 v6 ++ (wWk a7 σ7 ++ (wMd E a8 σ8 v8))))))))) = (wHb a0 p0_0 p0_1 p0_2 p0_3 p0_4 p0_5 τ0_0) ++ (wSt E a1 σ1 ++ (wSt E a2 σ2 ++ (wSt E a3 σ3 ++ (wHs E a4 h4 n4 o4 η4 ++ (wTx E a5 σ5 ++ (wSh a6 j6 σ6 v6 ++ (wWk a7 σ7 ++ (wMd E a8 σ8 v8)))))))) by simp only [List.append_assoc, List.nil_append, List.append_nil], put1 (s := 1) (n := 9) rfl rfl rfl]
  rw [show (wHb a0 p0_0 p0_1 p0_2 p0_3 p0_4 p0_5 τ0_0) ++ (wSt E a1 τ1_0 ++ (wSt E a2 σ2 ++ (wSt E a3 σ3 ++ (wHs E a4 h4 n4 o4 η4 ++ (wTx E a5 σ5 ++ (wSh a6 j6 σ6 v6 ++ (wWk a7 σ7 ++ (wMd E a8 σ8 v8)))))))) = (wHb a0 p0_0 p0_1 p0_2 p0_3 p0_4 p0_5 τ0_0 ++ (wSt E a1 τ1_0 ++ (wSt E a2 σ2 ++ (wSt E a3 σ3)))) ++ (wHs E a4 h4 n4 o4 η4 ++ (wTx E a5 σ5 ++ (wSh a6 j6 σ6 v6 ++ (wWk a7 σ7 ++ (wMd E a8 σ8 v8))))) by simp only [List.append_assoc, List.nil_append, List.append_nil], put1 (s := 28) (n := 38) rfl rfl rfl]
  try simp only [List.append_assoc, List.nil_append, List.append_nil]
theorem hc_115 {E : Ev} {a0 p0_0 p0_1 p0_2 p0_3 p0_4 p0_5 : Nat} {n0 : Int32} {a1 : Nat → Nat} {σ1 : N2} {a2 : Nat → Nat} {σ2 : N2} {a3 : Nat → Nat} {σ3 : N2} {a4 : Nat → Nat} {h4 : Nat → Nat → Nat} {n4 : Int32} {η4 : Nat → N2} {o4 : Nat} {a5 : Nat → Nat} {σ5 : N2} {a6 j6 : Nat} {σ6 : N1} {v6 : UInt32} {a7 : Nat} {σ7 : N1} {a8 : Nat → Nat} {σ8 : N2} {v8 : UInt32} : ([72, 73, 74, 75, 76, 77, 78, 79, 80, 81] : List Nat).map (fun i => (wHb a0 p0_0 p0_1 p0_2 p0_3 p0_4 p0_5 n0 ++ (wSt E a1 σ1 ++ (wSt E a2 σ2 ++ (wSt E a3 σ3 ++ (wHs E a4 h4 n4 o4 η4 ++ (wTx E a5 σ5 ++ (wSh a6 j6 σ6 v6 ++ (wWk a7 σ7 ++ wMd E a8 σ8 v8))))))))[i]?) = (wMd E a8 σ8 v8).map some := by rw [show wHb a0 p0_0 p0_1 p0_2 p0_3 p0_4 p0_5 n0 ++ (wSt E a1 σ1 ++ (wSt E a2 σ2 ++ (wSt E a3 σ3 ++ (wHs E a4 h4 n4 o4 η4 ++ (wTx E a5 σ5 ++ (wSh a6 j6 σ6 v6 ++ (wWk a7 σ7 ++ (wMd E a8 σ8 v8)))))))) = (wHb a0 p0_0 p0_1 p0_2 p0_3 p0_4 p0_5 n0 ++ (wSt E a1 σ1 ++ (wSt E a2 σ2 ++ (wSt E a3 σ3 ++ (wHs E a4 h4 n4 o4 η4 ++ (wTx E a5 σ5 ++ (wSh a6 j6 σ6 v6 ++ (wWk a7 σ7)))))))) ++ (wMd E a8 σ8 v8 ++ (([] : va_W))) by simp only [List.append_assoc, List.nil_append, List.append_nil]]; exact get1 (s := 72) (n := 10) rfl rfl
theorem ha_115 {E : Ev} {a8 : Nat → Nat} {σ8 : N2} {v8 : UInt32} {τ0_0 : N2} {τ0_1 : UInt32} : (wMd E a8 τ0_0 τ0_1).map Prod.fst = (wMd E a8 σ8 v8).map Prod.fst := fst_Md
theorem hw_115 {E : Ev} {a0 p0_0 p0_1 p0_2 p0_3 p0_4 p0_5 : Nat} {n0 : Int32} {a1 : Nat → Nat} {σ1 : N2} {a2 : Nat → Nat} {σ2 : N2} {a3 : Nat → Nat} {σ3 : N2} {a4 : Nat → Nat} {h4 : Nat → Nat → Nat} {n4 : Int32} {η4 : Nat → N2} {o4 : Nat} {a5 : Nat → Nat} {σ5 : N2} {a6 j6 : Nat} {σ6 : N1} {v6 : UInt32} {a7 : Nat} {σ7 : N1} {a8 : Nat → Nat} {σ8 : N2} {v8 : UInt32} {τ0_0 : N2} {τ0_1 : UInt32} : wput (wHb a0 p0_0 p0_1 p0_2 p0_3 p0_4 p0_5 n0 ++ (wSt E a1 σ1 ++ (wSt E a2 σ2 ++ (wSt E a3 σ3 ++ (wHs E a4 h4 n4 o4 η4 ++ (wTx E a5 σ5 ++ (wSh a6 j6 σ6 v6 ++ (wWk a7 σ7 ++ wMd E a8 σ8 v8)))))))) [72, 73, 74, 75, 76, 77, 78, 79, 80, 81] (wMd E a8 τ0_0 τ0_1) = wHb a0 p0_0 p0_1 p0_2 p0_3 p0_4 p0_5 n0 ++ (wSt E a1 σ1 ++ (wSt E a2 σ2 ++ (wSt E a3 σ3 ++ (wHs E a4 h4 n4 o4 η4 ++ (wTx E a5 σ5 ++ (wSh a6 j6 σ6 v6 ++ (wWk a7 σ7 ++ wMd E a8 τ0_0 τ0_1))))))) := by
  show wput (wHb a0 p0_0 p0_1 p0_2 p0_3 p0_4 p0_5 n0 ++ (wSt E a1 σ1 ++ (wSt E a2 σ2 ++ (wSt E a3 σ3 ++ (wHs E a4 h4 n4 o4 η4 ++ (wTx E a5 σ5 ++ (wSh a6 j6 σ6 v6 ++ (wWk a7 σ7 ++ (wMd E a8 σ8 v8))))))))) (rg 72 10) (wMd E a8 τ0_0 τ0_1) = _
  rw [show wHb a0 p0_0 p0_1 p0_2 p0_3 p0_4 p0_5 n0 ++ (wSt E a1 σ1 ++ (wSt E a2 σ2 ++ (wSt E a3 σ3 ++ (wHs E a4 h4 n4 o4 η4 ++ (wTx E a5 σ5 ++ (wSh a6 j6 σ6 v6 ++ (wWk a7 σ7 ++ (wMd E a8 σ8 v8)))))))) = (wHb a0 p0_0 p0_1 p0_2 p0_3 p0_4 p0_5 n0 ++ (wSt E a1 σ1 ++ (wSt E a2 σ2 ++ (wSt E a3 σ3 ++ (wHs E a4 h4 n4 o4 η4 ++ (wTx E a5 σ5 ++ (wSh a6 j6 σ6 v6 ++ (wWk a7 σ7)))))))) ++ (wMd E a8 σ8 v8 ++ (([] : va_W))) by simp only [List.append_assoc, List.nil_append, List.append_nil], put1 (s := 72) (n := 10) rfl rfl rfl]
  try simp only [List.append_assoc, List.nil_append, List.append_nil]
set_option maxHeartbeats 4000000 in
set_option maxRecDepth 100000 in
theorem law_put (X : Cx p m meth c code 8 s #[Value.ref b] RL E (lwA s)) (hX : va_X b L xs s s.heap) (hbl : b < s.heap.size) (hL : L ≤ 3072) (hi : i + 6 ≤ L) (R : REL hs σ σn ny o η t μ) (w : Wd E (lwA s) s (wHb h (a1 0) (a2 0) (a3 0) (ah 0) (a5 0) k hs ++ (wSt E a1 σ ++ (wSt E a2 σn ++ (wSt E a3 σr ++ (wHs E ah hh ny o η ++ (wTx E a5 t ++ (wSh k j z sp ++ (wWk j d ++ wMd E am μ sp2)))))))) H locs) (hl : lv_has ls 8 [(3, .int (nI i)), (2, .ref (am 0)), (1, .ref h), (0, .ref b)]) (next : NX p l e s m b below meth c E h k j a1 a2 a3 ah a5 am hh i) : W p l e room_1 s m #[Value.ref b] below meth c H locs 82 1976 (lw_Z below #[Value.ref b] s) (F0 m 132 ls []) := by
  have hx := X.1
  have hb := X.2.1
  have hbA : ¬ lwA s b := lwA_out s b hbl
  refine lv_aload_n hx hb dL_law_132 rfl (lv_at hl 2 rfl) ?_
  refine lv_aload_n hx hb dL_law_133 rfl (lv_at hl 3 rfl) ?_
  refine lv_iload_n hx hb dL_law_134 rfl (lv_at hl 0 rfl) ?_
  refine lv_iconst (v := 1) hx hb dL_law_135 (by decide) ?_
  refine lv_iadd hx hb dL_law_136 ?_
  refine va_sld hx hb hX hbl hbA w.2.2 (sx_ix (k := 1) 1 rfl (by decide) hi hL) dL_law_137 ?_
  refine lv_aload_n hx hb dL_law_138 rfl (lv_at hl 3 rfl) ?_
  refine lv_iload_n hx hb dL_law_139 rfl (lv_at hl 0 rfl) ?_
  refine lv_iconst (v := 2) hx hb dL_law_140 (by decide) ?_
  refine lv_iadd hx hb dL_law_141 ?_
  refine va_sld hx hb hX hbl hbA w.2.2 (sx_ix (k := 2) 2 rfl (by decide) hi hL) dL_law_142 ?_
  refine r_ci w (r_runV (As := [.int (xs ((nI i) + 1).toNatClampNeg), .int (xs ((nI i) + 2).toNatClampNeg)]) (rest := []) X w (kX6_put l E h (a2 0) (a3 0) (a5 0) k hs a1 σ ah hh ny o η (xs ((nI i) + 1).toNatClampNeg) (xs ((nI i) + 2).toNatClampNeg) ) ck_L_13 ⟨Nat.le_of_ble_eq_true rfl, Nat.le_of_ble_eq_true rfl⟩ [0, 1, 2, 3, 4, 5, 6, 7, 8, 9, 28, 29, 30, 31, 32, 33, 34, 35, 36, 37, 38, 39, 40, 41, 42, 43, 44, 45, 46, 47, 48, 49, 50, 51, 52, 53, 54, 55, 56, 57, 58, 59, 60, 61, 62, 63, 64, 65] (hc_114 (E := E)) (by decide +kernel) (k0 := 0) CL6 rfl hl.1 (Nat.le_of_ble_eq_true rfl) rfl dL_law_143 ⟨Nat.le_of_ble_eq_true rfl, Nat.le_of_ble_eq_true rfl⟩) (wHb h (a1 0) (a2 0) (a3 0) (ah 0) (a5 0) k hs ++ (wSt E a1 ((fX6_put hs σ ny o η (xs ((nI i) + 1).toNatClampNeg) (xs ((nI i) + 2).toNatClampNeg)).2.1) ++ (wSt E a2 σn ++ (wSt E a3 σr ++ (wHs E ah hh ((fX6_put hs σ ny o η (xs ((nI i) + 1).toNatClampNeg) (xs ((nI i) + 2).toNatClampNeg)).2.2.1) ((fX6_put hs σ ny o η (xs ((nI i) + 1).toNatClampNeg) (xs ((nI i) + 2).toNatClampNeg)).2.2.2.1) ((fX6_put hs σ ny o η (xs ((nI i) + 1).toNatClampNeg) (xs ((nI i) + 2).toNatClampNeg)).2.2.2.2) ++ (wTx E a5 t ++ (wSh k j z sp ++ (wWk j d ++ wMd E am μ sp2)))))))) [0, 1, 2, 3, 4, 5, 6, 7, 8, 9, 28, 29, 30, 31, 32, 33, 34, 35, 36, 37, 38, 39, 40, 41, 42, 43, 44, 45, 46, 47, 48, 49, 50, 51, 52, 53, 54, 55, 56, 57, 58, 59, 60, 61, 62, 63, 64, 65] (hc_114 (E := E)) (by decide +kernel) (ha_114 (E := E)) (hw_114 (E := E)) (fun H locs w => ?_)
  refine lv_aload_n hx hb dL_law_146 rfl (lv_at hl 1 rfl) ?_
  refine lv_aload_n hx hb dL_law_147 rfl (lv_at hl 3 rfl) ?_
  refine lv_iload_n hx hb dL_law_148 rfl (lv_at hl 0 rfl) ?_
  refine lv_iconst (v := 1) hx hb dL_law_149 (by decide) ?_
  refine lv_iadd hx hb dL_law_150 ?_
  refine va_sld hx hb hX hbl hbA w.2.2 (sx_ix (k := 1) 1 rfl (by decide) hi hL) dL_law_151 ?_
  refine lv_aload_n hx hb dL_law_152 rfl (lv_at hl 3 rfl) ?_
  refine lv_iload_n hx hb dL_law_153 rfl (lv_at hl 0 rfl) ?_
  refine lv_iconst (v := 2) hx hb dL_law_154 (by decide) ?_
  refine lv_iadd hx hb dL_law_155 ?_
  refine va_sld hx hb hX hbl hbA w.2.2 (sx_ix (k := 2) 2 rfl (by decide) hi hL) dL_law_156 ?_
  refine r_ci w (r_runV (As := [.int (xs ((nI i) + 1).toNatClampNeg), .int (xs ((nI i) + 2).toNatClampNeg)]) (rest := [.int ((fX6_put hs σ ny o η (xs ((nI i) + 1).toNatClampNeg) (xs ((nI i) + 2).toNatClampNeg)).1)]) X w (kX7_put l E am μ sp2 (xs ((nI i) + 1).toNatClampNeg) (xs ((nI i) + 2).toNatClampNeg) (REL_gE R) (REL_gH R)) ck_L_17 ⟨Nat.le_of_ble_eq_true rfl, Nat.le_of_ble_eq_true rfl⟩ [72, 73, 74, 75, 76, 77, 78, 79, 80, 81] (hc_115 (E := E)) (by decide +kernel) (k0 := 0) CL7 rfl hl.1 (Nat.le_of_ble_eq_true rfl) rfl dL_law_157 ⟨Nat.le_of_ble_eq_true rfl, Nat.le_of_ble_eq_true rfl⟩) (wHb h (a1 0) (a2 0) (a3 0) (ah 0) (a5 0) k hs ++ (wSt E a1 ((fX6_put hs σ ny o η (xs ((nI i) + 1).toNatClampNeg) (xs ((nI i) + 2).toNatClampNeg)).2.1) ++ (wSt E a2 σn ++ (wSt E a3 σr ++ (wHs E ah hh ((fX6_put hs σ ny o η (xs ((nI i) + 1).toNatClampNeg) (xs ((nI i) + 2).toNatClampNeg)).2.2.1) ((fX6_put hs σ ny o η (xs ((nI i) + 1).toNatClampNeg) (xs ((nI i) + 2).toNatClampNeg)).2.2.2.1) ((fX6_put hs σ ny o η (xs ((nI i) + 1).toNatClampNeg) (xs ((nI i) + 2).toNatClampNeg)).2.2.2.2) ++ (wTx E a5 t ++ (wSh k j z sp ++ (wWk j d ++ wMd E am ((fX7_put μ sp2 (xs ((nI i) + 1).toNatClampNeg) (xs ((nI i) + 2).toNatClampNeg)).2) sp2)))))))) [72, 73, 74, 75, 76, 77, 78, 79, 80, 81] (hc_115 (E := E)) (by decide +kernel) (ha_115 (E := E)) (hw_115 (E := E)) (fun H locs w => ?_)
  refine lv_icmp_eq (tgt := 833) hx hb dL_law_160 (by decide) (fun _ => ?_) (fun h => absurd (s_put R).1 h)
  exact next _ _ _ _ _ _ _ _ _ _ _ _ _ _ _ _ (s_put R).2 w (lv_sub hl [0, 1, 2, 3] rfl)
theorem dL_law_165 : decode code 165 = .ok (.aload_n 1, 1) := by decide +kernel
theorem dL_law_166 : decode code 166 = .ok (.invokevirtual 18, 3) := by decide +kernel
theorem dL_law_169 : decode code 169 = .ok (.aload_n 2, 1) := by decide +kernel
theorem dL_law_170 : decode code 170 = .ok (.invokevirtual 22, 3) := by decide +kernel
theorem dL_law_173 : decode code 173 = .ok (.if_icmp .eq 660, 3) := by decide +kernel
theorem ck_L_18 : CkV RL 18 RX6 yX6_putAll cX6_putAll 5 (some .int) 0 := ⟨wm_L_18, wim_yX6_putAll, wse_yX6_putAll, wi_X6, wc_yX6_putAll, by decide +kernel⟩
theorem ck_L_22 : CkV RL 22 RX7 yX7_putAll cX7_putAll 6 (some .int) 0 := ⟨wm_L_22, wim_yX7_putAll, wse_yX7_putAll, wi_X7, wc_yX7_putAll, by decide +kernel⟩
theorem hc_116 {E : Ev} {a0 p0_0 p0_1 p0_2 p0_3 p0_4 p0_5 : Nat} {n0 : Int32} {a1 : Nat → Nat} {σ1 : N2} {a2 : Nat → Nat} {σ2 : N2} {a3 : Nat → Nat} {σ3 : N2} {a4 : Nat → Nat} {h4 : Nat → Nat → Nat} {n4 : Int32} {η4 : Nat → N2} {o4 : Nat} {a5 : Nat → Nat} {σ5 : N2} {a6 j6 : Nat} {σ6 : N1} {v6 : UInt32} {a7 : Nat} {σ7 : N1} {a8 : Nat → Nat} {σ8 : N2} {v8 : UInt32} : ([0, 1, 2, 3, 4, 5, 6, 7, 8, 9, 19, 20, 21, 22, 23, 24, 25, 26, 27, 28, 29, 30, 31, 32, 33, 34, 35, 36, 37, 38, 39, 40, 41, 42, 43, 44, 45, 46, 47, 48, 49, 50, 51, 52, 53, 54, 55, 56, 57, 58, 59, 60, 61, 62, 63, 64, 65, 66, 67, 68, 69] : List Nat).map (fun i => (wHb a0 p0_0 p0_1 p0_2 p0_3 p0_4 p0_5 n0 ++ (wSt E a1 σ1 ++ (wSt E a2 σ2 ++ (wSt E a3 σ3 ++ (wHs E a4 h4 n4 o4 η4 ++ (wTx E a5 σ5 ++ (wSh a6 j6 σ6 v6 ++ (wWk a7 σ7 ++ wMd E a8 σ8 v8))))))))[i]?) = (wHb a0 p0_0 p0_1 p0_2 p0_3 p0_4 p0_5 n0 ++ (wSt E a1 σ1 ++ (wSt E a3 σ3 ++ (wHs E a4 h4 n4 o4 η4 ++ wTx E a5 σ5)))).map some := get_app (is1 := rg 0 1) (is2 := rg 1 9 ++ (rg 19 9 ++ (rg 28 38 ++ (rg 66 4)))) (by rw [show wHb a0 p0_0 p0_1 p0_2 p0_3 p0_4 p0_5 n0 ++ (wSt E a1 σ1 ++ (wSt E a2 σ2 ++ (wSt E a3 σ3 ++ (wHs E a4 h4 n4 o4 η4 ++ (wTx E a5 σ5 ++ (wSh a6 j6 σ6 v6 ++ (wWk a7 σ7 ++ (wMd E a8 σ8 v8)))))))) = ([] : va_W) ++ (wHb a0 p0_0 p0_1 p0_2 p0_3 p0_4 p0_5 n0 ++ (wSt E a1 σ1 ++ (wSt E a2 σ2 ++ (wSt E a3 σ3 ++ (wHs E a4 h4 n4 o4 η4 ++ (wTx E a5 σ5 ++ (wSh a6 j6 σ6 v6 ++ (wWk a7 σ7 ++ (wMd E a8 σ8 v8))))))))) by simp only [List.append_assoc, List.nil_append, List.append_nil]]; exact get1 (s := 0) (n := 1) rfl rfl) (get_app (is1 := rg 1 9) (is2 := rg 19 9 ++ (rg 28 38 ++ (rg 66 4))) (by rw [show wHb a0 p0_0 p0_1 p0_2 p0_3 p0_4 p0_5 n0 ++ (wSt E a1 σ1 ++ (wSt E a2 σ2 ++ (wSt E a3 σ3 ++ (wHs E a4 h4 n4 o4 η4 ++ (wTx E a5 σ5 ++ (wSh a6 j6 σ6 v6 ++ (wWk a7 σ7 ++ (wMd E a8 σ8 v8)))))))) = (wHb a0 p0_0 p0_1 p0_2 p0_3 p0_4 p0_5 n0) ++ (wSt E a1 σ1 ++ (wSt E a2 σ2 ++ (wSt E a3 σ3 ++ (wHs E a4 h4 n4 o4 η4 ++ (wTx E a5 σ5 ++ (wSh a6 j6 σ6 v6 ++ (wWk a7 σ7 ++ (wMd E a8 σ8 v8)))))))) by simp only [List.append_assoc, List.nil_append, List.append_nil]]; exact get1 (s := 1) (n := 9) rfl rfl) (get_app (is1 := rg 19 9) (is2 := rg 28 38 ++ (rg 66 4)) (by rw [show wHb a0 p0_0 p0_1 p0_2 p0_3 p0_4 p0_5 n0 ++ (wSt E a1 σ1 ++ (wSt E a2 σ2 ++ (wSt E a3 σ3 ++ (wHs E a4 h4 n4 o4 η4 ++ (wTx E a5 σ5 ++ (wSh a6 j6 σ6 v6 ++ (wWk a7 σ7 ++ (wMd E a8 σ8 v8)))))))) = (wHb a0 p0_0 p0_1 p0_2 p0_3 p0_4 p0_5 n0 ++ (wSt E a1 σ1 ++ (wSt E a2 σ2))) ++ (wSt E a3 σ3 ++ (wHs E a4 h4 n4 o4 η4 ++ (wTx E a5 σ5 ++ (wSh a6 j6 σ6 v6 ++ (wWk a7 σ7 ++ (wMd E a8 σ8 v8)))))) by simp only [List.append_assoc, List.nil_append, List.append_nil]]; exact get1 (s := 19) (n := 9) rfl rfl) (get_app (is1 := rg 28 38) (is2 := rg 66 4) (by rw [show wHb a0 p0_0 p0_1 p0_2 p0_3 p0_4 p0_5 n0 ++ (wSt E a1 σ1 ++ (wSt E a2 σ2 ++ (wSt E a3 σ3 ++ (wHs E a4 h4 n4 o4 η4 ++ (wTx E a5 σ5 ++ (wSh a6 j6 σ6 v6 ++ (wWk a7 σ7 ++ (wMd E a8 σ8 v8)))))))) = (wHb a0 p0_0 p0_1 p0_2 p0_3 p0_4 p0_5 n0 ++ (wSt E a1 σ1 ++ (wSt E a2 σ2 ++ (wSt E a3 σ3)))) ++ (wHs E a4 h4 n4 o4 η4 ++ (wTx E a5 σ5 ++ (wSh a6 j6 σ6 v6 ++ (wWk a7 σ7 ++ (wMd E a8 σ8 v8))))) by simp only [List.append_assoc, List.nil_append, List.append_nil]]; exact get1 (s := 28) (n := 38) rfl rfl) ((by rw [show wHb a0 p0_0 p0_1 p0_2 p0_3 p0_4 p0_5 n0 ++ (wSt E a1 σ1 ++ (wSt E a2 σ2 ++ (wSt E a3 σ3 ++ (wHs E a4 h4 n4 o4 η4 ++ (wTx E a5 σ5 ++ (wSh a6 j6 σ6 v6 ++ (wWk a7 σ7 ++ (wMd E a8 σ8 v8)))))))) = (wHb a0 p0_0 p0_1 p0_2 p0_3 p0_4 p0_5 n0 ++ (wSt E a1 σ1 ++ (wSt E a2 σ2 ++ (wSt E a3 σ3 ++ (wHs E a4 h4 n4 o4 η4))))) ++ (wTx E a5 σ5 ++ (wSh a6 j6 σ6 v6 ++ (wWk a7 σ7 ++ (wMd E a8 σ8 v8)))) by simp only [List.append_assoc, List.nil_append, List.append_nil]]; exact get1 (s := 66) (n := 4) rfl rfl)))))
theorem ha_116 {E : Ev} {a0 p0_0 p0_1 p0_2 p0_3 p0_4 p0_5 : Nat} {n0 : Int32} {a1 : Nat → Nat} {σ1 : N2} {a3 : Nat → Nat} {σ3 : N2} {a4 : Nat → Nat} {h4 : Nat → Nat → Nat} {n4 : Int32} {η4 : Nat → N2} {o4 : Nat} {a5 : Nat → Nat} {σ5 : N2} {τ0_0 : Int32} {τ1_0 : N2} {τ2_0 : N2} {τ3_0 : Int32} {τ3_1 : Nat} {τ3_2 : Nat → N2} {τ4_0 : N2} : (wHb a0 p0_0 p0_1 p0_2 p0_3 p0_4 p0_5 τ0_0 ++ (wSt E a1 τ1_0 ++ (wSt E a3 τ2_0 ++ (wHs E a4 h4 τ3_0 τ3_1 τ3_2 ++ wTx E a5 τ4_0)))).map Prod.fst = (wHb a0 p0_0 p0_1 p0_2 p0_3 p0_4 p0_5 n0 ++ (wSt E a1 σ1 ++ (wSt E a3 σ3 ++ (wHs E a4 h4 n4 o4 η4 ++ wTx E a5 σ5)))).map Prod.fst := fst_app fst_Hb (fst_app fst_St (fst_app fst_St (fst_app fst_Hs (fst_Tx))))
theorem hw_116 {E : Ev} {a0 p0_0 p0_1 p0_2 p0_3 p0_4 p0_5 : Nat} {n0 : Int32} {a1 : Nat → Nat} {σ1 : N2} {a2 : Nat → Nat} {σ2 : N2} {a3 : Nat → Nat} {σ3 : N2} {a4 : Nat → Nat} {h4 : Nat → Nat → Nat} {n4 : Int32} {η4 : Nat → N2} {o4 : Nat} {a5 : Nat → Nat} {σ5 : N2} {a6 j6 : Nat} {σ6 : N1} {v6 : UInt32} {a7 : Nat} {σ7 : N1} {a8 : Nat → Nat} {σ8 : N2} {v8 : UInt32} {τ0_0 : Int32} {τ1_0 : N2} {τ2_0 : N2} {τ3_0 : Int32} {τ3_1 : Nat} {τ3_2 : Nat → N2} {τ4_0 : N2} : wput (wHb a0 p0_0 p0_1 p0_2 p0_3 p0_4 p0_5 n0 ++ (wSt E a1 σ1 ++ (wSt E a2 σ2 ++ (wSt E a3 σ3 ++ (wHs E a4 h4 n4 o4 η4 ++ (wTx E a5 σ5 ++ (wSh a6 j6 σ6 v6 ++ (wWk a7 σ7 ++ wMd E a8 σ8 v8)))))))) [0, 1, 2, 3, 4, 5, 6, 7, 8, 9, 19, 20, 21, 22, 23, 24, 25, 26, 27, 28, 29, 30, 31, 32, 33, 34, 35, 36, 37, 38, 39, 40, 41, 42, 43, 44, 45, 46, 47, 48, 49, 50, 51, 52, 53, 54, 55, 56, 57, 58, 59, 60, 61, 62, 63, 64, 65, 66, 67, 68, 69] (wHb a0 p0_0 p0_1 p0_2 p0_3 p0_4 p0_5 τ0_0 ++ (wSt E a1 τ1_0 ++ (wSt E a3 τ2_0 ++ (wHs E a4 h4 τ3_0 τ3_1 τ3_2 ++ wTx E a5 τ4_0)))) = wHb a0 p0_0 p0_1 p0_2 p0_3 p0_4 p0_5 τ0_0 ++ (wSt E a1 τ1_0 ++ (wSt E a2 σ2 ++ (wSt E a3 τ2_0 ++ (wHs E a4 h4 τ3_0 τ3_1 τ3_2 ++ (wTx E a5 τ4_0 ++ (wSh a6 j6 σ6 v6 ++ (wWk a7 σ7 ++ wMd E a8 σ8 v8))))))) := by
  show wput (wHb a0 p0_0 p0_1 p0_2 p0_3 p0_4 p0_5 n0 ++ (wSt E a1 σ1 ++ (wSt E a2 σ2 ++ (wSt E a3 σ3 ++ (wHs E a4 h4 n4 o4 η4 ++ (wTx E a5 σ5 ++ (wSh a6 j6 σ6 v6 ++ (wWk a7 σ7 ++ (wMd E a8 σ8 v8))))))))) (rg 0 1 ++ (rg 1 9 ++ (rg 19 9 ++ (rg 28 38 ++ (rg 66 4))))) (wHb a0 p0_0 p0_1 p0_2 p0_3 p0_4 p0_5 τ0_0 ++ (wSt E a1 τ1_0 ++ (wSt E a3 τ2_0 ++ (wHs E a4 h4 τ3_0 τ3_1 τ3_2 ++ wTx E a5 τ4_0)))) = _
  rw [wput_app rfl]
  rw [show wHb a0 p0_0 p0_1 p0_2 p0_3 p0_4 p0_5 n0 ++ (wSt E a1 σ1 ++ (wSt E a2 σ2 ++ (wSt E a3 σ3 ++ (wHs E a4 h4 n4 o4 η4 ++ (wTx E a5 σ5 ++ (wSh a6 j6 σ6 v6 ++ (wWk a7 σ7 ++ (wMd E a8 σ8 v8)))))))) = ([] : va_W) ++ (wHb a0 p0_0 p0_1 p0_2 p0_3 p0_4 p0_5 n0 ++ (wSt E a1 σ1 ++ (wSt E a2 σ2 ++ (wSt E a3 σ3 ++ (wHs E a4 h4 n4 o4 η4 ++ (wTx E a5 σ5 ++ (wSh a6 j6 σ6 v6 ++ (wWk a7 σ7 ++ (wMd E a8 σ8 v8))))))))) by simp only [List.append_assoc, List.nil_append, List.append_nil], put1 (s := 0) (n := 1) rfl rfl rfl]
  rw [wput_app rfl]
  rw [show ([] : va_W) ++ (wHb a0 p0_0 p0_1 p0_2 p0_3 p0_4 p0_5 τ0_0 ++ (wSt E a1 σ1 ++ (wSt E a2 σ2 ++ (wSt E a3 σ3 ++ (wHs E a4 h4 n4 o4 η4 ++ (wTx E a5 σ5 ++ (wSh a6 j6 σ6 v6 ++ (wWk a7 σ7 ++ (wMd E a8 σ8 v8))))))))) = (wHb a0 p0_0 p0_1 p0_2 p0_3 p0_4 p0_5 τ0_0) ++ (wSt E a1 σ1 ++ (wSt E a2 σ2 ++ (wSt E a3 σ3 ++ (wHs E a4 h4 n4 o4 η4 ++ (wTx E a5 σ5 ++ (wSh a6 j6 σ6 v6 ++ (wWk a7 σ7 ++ (wMd E a8 σ8 v8)))))))) by simp only [List.append_assoc, List.nil_append, List.append_nil], put1 (s := 1) (n := 9) rfl rfl rfl]
  rw [wput_app rfl]
  rw [show (wHb a0 p0_0 p0_1 p0_2 p0_3 p0_4 p0_5 τ0_0) ++ (wSt E a1 τ1_0 ++ (wSt E a2 σ2 ++ (wSt E a3 σ3 ++ (wHs E a4 h4 n4 o4 η4 ++ (wTx E a5 σ5 ++ (wSh a6 j6 σ6 v6 ++ (wWk a7 σ7 ++ (wMd E a8 σ8 v8)))))))) = (wHb a0 p0_0 p0_1 p0_2 p0_3 p0_4 p0_5 τ0_0 ++ (wSt E a1 τ1_0 ++ (wSt E a2 σ2))) ++ (wSt E a3 σ3 ++ (wHs E a4 h4 n4 o4 η4 ++ (wTx E a5 σ5 ++ (wSh a6 j6 σ6 v6 ++ (wWk a7 σ7 ++ (wMd E a8 σ8 v8)))))) by simp only [List.append_assoc, List.nil_append, List.append_nil], put1 (s := 19) (n := 9) rfl rfl rfl]
  rw [wput_app rfl]
  rw [show (wHb a0 p0_0 p0_1 p0_2 p0_3 p0_4 p0_5 τ0_0 ++ (wSt E a1 τ1_0 ++ (wSt E a2 σ2))) ++ (wSt E a3 τ2_0 ++ (wHs E a4 h4 n4 o4 η4 ++ (wTx E a5 σ5 ++ (wSh a6 j6 σ6 v6 ++ (wWk a7 σ7 ++ (wMd E a8 σ8 v8)))))) = (wHb a0 p0_0 p0_1 p0_2 p0_3 p0_4 p0_5 τ0_0 ++ (wSt E a1 τ1_0 ++ (wSt E a2 σ2 ++ (wSt E a3 τ2_0)))) ++ (wHs E a4 h4 n4 o4 η4 ++ (wTx E a5 σ5 ++ (wSh a6 j6 σ6 v6 ++ (wWk a7 σ7 ++ (wMd E a8 σ8 v8))))) by simp only [List.append_assoc, List.nil_append, List.append_nil], put1 (s := 28) (n := 38) rfl rfl rfl]
  rw [show (wHb a0 p0_0 p0_1 p0_2 p0_3 p0_4 p0_5 τ0_0 ++ (wSt E a1 τ1_0 ++ (wSt E a2 σ2 ++ (wSt E a3 τ2_0)))) ++ (wHs E a4 h4 τ3_0 τ3_1 τ3_2 ++ (wTx E a5 σ5 ++ (wSh a6 j6 σ6 v6 ++ (wWk a7 σ7 ++ (wMd E a8 σ8 v8))))) = (wHb a0 p0_0 p0_1 p0_2 p0_3 p0_4 p0_5 τ0_0 ++ (wSt E a1 τ1_0 ++ (wSt E a2 σ2 ++ (wSt E a3 τ2_0 ++ (wHs E a4 h4 τ3_0 τ3_1 τ3_2))))) ++ (wTx E a5 σ5 ++ (wSh a6 j6 σ6 v6 ++ (wWk a7 σ7 ++ (wMd E a8 σ8 v8)))) by simp only [List.append_assoc, List.nil_append, List.append_nil], put1 (s := 66) (n := 4) rfl rfl rfl]
  try simp only [List.append_assoc, List.nil_append, List.append_nil]
set_option maxHeartbeats 4000000 in
set_option maxRecDepth 100000 in
theorem law_putAll (X : Cx p m meth c code 8 s #[Value.ref b] RL E (lwA s)) (hX : va_X b L xs s s.heap) (hbl : b < s.heap.size) (hL : L ≤ 3072) (hi : i + 6 ≤ L) (R : REL hs σ σn ny o η t μ) (w : Wd E (lwA s) s (wHb h (a1 0) (a2 0) (a3 0) (ah 0) (a5 0) k hs ++ (wSt E a1 σ ++ (wSt E a2 σn ++ (wSt E a3 σr ++ (wHs E ah hh ny o η ++ (wTx E a5 t ++ (wSh k j z sp ++ (wWk j d ++ wMd E am μ sp2)))))))) H locs) (hl : lv_has ls 8 [(3, .int (nI i)), (2, .ref (am 0)), (1, .ref h), (0, .ref b)]) (next : NX p l e s m b below meth c E h k j a1 a2 a3 ah a5 am hh i) : W p l e room_1 s m #[Value.ref b] below meth c H locs 82 1976 (lw_Z below #[Value.ref b] s) (F0 m 165 ls []) := by
  have hx := X.1
  have hb := X.2.1
  have hbA : ¬ lwA s b := lwA_out s b hbl
  refine lv_aload_n hx hb dL_law_165 rfl (lv_at hl 2 rfl) ?_
  refine r_ci w (r_runV (As := []) (rest := []) X w (kX6_putAll l E h (a2 0) k hs a1 σ a3 σr ah hh ny o η a5 t ) ck_L_18 ⟨Nat.le_of_ble_eq_true rfl, Nat.le_of_ble_eq_true rfl⟩ [0, 1, 2, 3, 4, 5, 6, 7, 8, 9, 19, 20, 21, 22, 23, 24, 25, 26, 27, 28, 29, 30, 31, 32, 33, 34, 35, 36, 37, 38, 39, 40, 41, 42, 43, 44, 45, 46, 47, 48, 49, 50, 51, 52, 53, 54, 55, 56, 57, 58, 59, 60, 61, 62, 63, 64, 65, 66, 67, 68, 69] (hc_116 (E := E)) (by decide +kernel) (k0 := 0) CL6 rfl hl.1 (Nat.le_of_ble_eq_true rfl) rfl dL_law_166 ⟨Nat.le_of_ble_eq_true rfl, Nat.le_of_ble_eq_true rfl⟩) (wHb h (a1 0) (a2 0) (a3 0) (ah 0) (a5 0) k hs ++ (wSt E a1 ((fX6_putAll hs σ σr ny o η t).2.1) ++ (wSt E a2 σn ++ (wSt E a3 ((fX6_putAll hs σ σr ny o η t).2.2.1) ++ (wHs E ah hh ((fX6_putAll hs σ σr ny o η t).2.2.2.1) ((fX6_putAll hs σ σr ny o η t).2.2.2.2.1) ((fX6_putAll hs σ σr ny o η t).2.2.2.2.2.1) ++ (wTx E a5 ((fX6_putAll hs σ σr ny o η t).2.2.2.2.2.2) ++ (wSh k j z sp ++ (wWk j d ++ wMd E am μ sp2)))))))) [0, 1, 2, 3, 4, 5, 6, 7, 8, 9, 19, 20, 21, 22, 23, 24, 25, 26, 27, 28, 29, 30, 31, 32, 33, 34, 35, 36, 37, 38, 39, 40, 41, 42, 43, 44, 45, 46, 47, 48, 49, 50, 51, 52, 53, 54, 55, 56, 57, 58, 59, 60, 61, 62, 63, 64, 65, 66, 67, 68, 69] (hc_116 (E := E)) (by decide +kernel) (ha_116 (E := E)) (hw_116 (E := E)) (fun H locs w => ?_)
  refine lv_aload_n hx hb dL_law_169 rfl (lv_at hl 1 rfl) ?_
  refine r_ci w (r_runV (As := []) (rest := [.int ((fX6_putAll hs σ σr ny o η t).1)]) X w (kX7_putAll l E am μ sp2 (REL_gE R) (REL_gH R) (REL_gT R)) ck_L_22 ⟨Nat.le_of_ble_eq_true rfl, Nat.le_of_ble_eq_true rfl⟩ [72, 73, 74, 75, 76, 77, 78, 79, 80, 81] (hc_115 (E := E)) (by decide +kernel) (k0 := 0) CL7 rfl hl.1 (Nat.le_of_ble_eq_true rfl) rfl dL_law_170 ⟨Nat.le_of_ble_eq_true rfl, Nat.le_of_ble_eq_true rfl⟩) (wHb h (a1 0) (a2 0) (a3 0) (ah 0) (a5 0) k hs ++ (wSt E a1 ((fX6_putAll hs σ σr ny o η t).2.1) ++ (wSt E a2 σn ++ (wSt E a3 ((fX6_putAll hs σ σr ny o η t).2.2.1) ++ (wHs E ah hh ((fX6_putAll hs σ σr ny o η t).2.2.2.1) ((fX6_putAll hs σ σr ny o η t).2.2.2.2.1) ((fX6_putAll hs σ σr ny o η t).2.2.2.2.2.1) ++ (wTx E a5 ((fX6_putAll hs σ σr ny o η t).2.2.2.2.2.2) ++ (wSh k j z sp ++ (wWk j d ++ wMd E am ((fX7_putAll μ sp2).2) sp2)))))))) [72, 73, 74, 75, 76, 77, 78, 79, 80, 81] (hc_115 (E := E)) (by decide +kernel) (ha_115 (E := E)) (hw_115 (E := E)) (fun H locs w => ?_)
  refine lv_icmp_eq (tgt := 833) hx hb dL_law_173 (by decide) (fun _ => ?_) (fun h => absurd (s_putAll R).1 h)
  exact next _ _ _ _ _ _ _ _ _ _ _ _ _ _ _ _ (s_putAll (σr := σr) R).2 w (lv_sub hl [0, 1, 2, 3] rfl)
theorem dL_law_178 : decode code 178 = .ok (.aload_n 1, 1) := by decide +kernel
theorem dL_law_179 : decode code 179 = .ok (.aload_n 0, 1) := by decide +kernel
theorem dL_law_180 : decode code 180 = .ok (.iload_n 3, 1) := by decide +kernel
theorem dL_law_181 : decode code 181 = .ok (.iconst 1, 1) := by decide +kernel
theorem dL_law_182 : decode code 182 = .ok (.iadd, 1) := by decide +kernel
theorem dL_law_183 : decode code 183 = .ok (.iaload, 1) := by decide +kernel
theorem dL_law_184 : decode code 184 = .ok (.aload_n 0, 1) := by decide +kernel
theorem dL_law_185 : decode code 185 = .ok (.iload_n 3, 1) := by decide +kernel
theorem dL_law_186 : decode code 186 = .ok (.iconst 2, 1) := by decide +kernel
theorem dL_law_187 : decode code 187 = .ok (.iadd, 1) := by decide +kernel
theorem dL_law_188 : decode code 188 = .ok (.iaload, 1) := by decide +kernel
theorem dL_law_189 : decode code 189 = .ok (.invokevirtual 23, 3) := by decide +kernel
theorem dL_law_192 : decode code 192 = .ok (.aload_n 2, 1) := by decide +kernel
theorem dL_law_193 : decode code 193 = .ok (.aload_n 0, 1) := by decide +kernel
theorem dL_law_194 : decode code 194 = .ok (.iload_n 3, 1) := by decide +kernel
theorem dL_law_195 : decode code 195 = .ok (.iconst 1, 1) := by decide +kernel
theorem dL_law_196 : decode code 196 = .ok (.iadd, 1) := by decide +kernel
theorem dL_law_197 : decode code 197 = .ok (.iaload, 1) := by decide +kernel
theorem dL_law_198 : decode code 198 = .ok (.aload_n 0, 1) := by decide +kernel
theorem dL_law_199 : decode code 199 = .ok (.iload_n 3, 1) := by decide +kernel
theorem dL_law_200 : decode code 200 = .ok (.iconst 2, 1) := by decide +kernel
theorem dL_law_201 : decode code 201 = .ok (.iadd, 1) := by decide +kernel
theorem dL_law_202 : decode code 202 = .ok (.iaload, 1) := by decide +kernel
theorem dL_law_203 : decode code 203 = .ok (.invokevirtual 26, 3) := by decide +kernel
theorem dL_law_206 : decode code 206 = .ok (.if_icmp .eq 627, 3) := by decide +kernel
theorem ck_L_23 : CkV RL 23 RX6 yX6_move cX6_move 4 (some .int) 2 := ⟨wm_L_23, wim_yX6_move, wse_yX6_move, wi_X6, wc_yX6_move, by decide +kernel⟩
theorem ck_L_26 : CkV RL 26 RX7 yX7_move cX7_move 5 (some .int) 2 := ⟨wm_L_26, wim_yX7_move, wse_yX7_move, wi_X7, wc_yX7_move, by decide +kernel⟩
set_option maxHeartbeats 4000000 in
set_option maxRecDepth 100000 in
theorem law_move (X : Cx p m meth c code 8 s #[Value.ref b] RL E (lwA s)) (hX : va_X b L xs s s.heap) (hbl : b < s.heap.size) (hL : L ≤ 3072) (hi : i + 6 ≤ L) (R : REL hs σ σn ny o η t μ) (w : Wd E (lwA s) s (wHb h (a1 0) (a2 0) (a3 0) (ah 0) (a5 0) k hs ++ (wSt E a1 σ ++ (wSt E a2 σn ++ (wSt E a3 σr ++ (wHs E ah hh ny o η ++ (wTx E a5 t ++ (wSh k j z sp ++ (wWk j d ++ wMd E am μ sp2)))))))) H locs) (hl : lv_has ls 8 [(3, .int (nI i)), (2, .ref (am 0)), (1, .ref h), (0, .ref b)]) (next : NX p l e s m b below meth c E h k j a1 a2 a3 ah a5 am hh i) : W p l e room_1 s m #[Value.ref b] below meth c H locs 82 1976 (lw_Z below #[Value.ref b] s) (F0 m 178 ls []) := by
  have hx := X.1
  have hb := X.2.1
  have hbA : ¬ lwA s b := lwA_out s b hbl
  refine lv_aload_n hx hb dL_law_178 rfl (lv_at hl 2 rfl) ?_
  refine lv_aload_n hx hb dL_law_179 rfl (lv_at hl 3 rfl) ?_
  refine lv_iload_n hx hb dL_law_180 rfl (lv_at hl 0 rfl) ?_
  refine lv_iconst (v := 1) hx hb dL_law_181 (by decide) ?_
  refine lv_iadd hx hb dL_law_182 ?_
  refine va_sld hx hb hX hbl hbA w.2.2 (sx_ix (k := 1) 1 rfl (by decide) hi hL) dL_law_183 ?_
  refine lv_aload_n hx hb dL_law_184 rfl (lv_at hl 3 rfl) ?_
  refine lv_iload_n hx hb dL_law_185 rfl (lv_at hl 0 rfl) ?_
  refine lv_iconst (v := 2) hx hb dL_law_186 (by decide) ?_
  refine lv_iadd hx hb dL_law_187 ?_
  refine va_sld hx hb hX hbl hbA w.2.2 (sx_ix (k := 2) 2 rfl (by decide) hi hL) dL_law_188 ?_
  refine r_ci w (r_runV (As := [.int (xs ((nI i) + 1).toNatClampNeg), .int (xs ((nI i) + 2).toNatClampNeg)]) (rest := []) X w (kX6_move l E h (a2 0) (a3 0) (a5 0) k hs a1 σ ah hh ny o η (xs ((nI i) + 1).toNatClampNeg) (xs ((nI i) + 2).toNatClampNeg) ) ck_L_23 ⟨Nat.le_of_ble_eq_true rfl, Nat.le_of_ble_eq_true rfl⟩ [0, 1, 2, 3, 4, 5, 6, 7, 8, 9, 28, 29, 30, 31, 32, 33, 34, 35, 36, 37, 38, 39, 40, 41, 42, 43, 44, 45, 46, 47, 48, 49, 50, 51, 52, 53, 54, 55, 56, 57, 58, 59, 60, 61, 62, 63, 64, 65] (hc_114 (E := E)) (by decide +kernel) (k0 := 0) CL6 rfl hl.1 (Nat.le_of_ble_eq_true rfl) rfl dL_law_189 ⟨Nat.le_of_ble_eq_true rfl, Nat.le_of_ble_eq_true rfl⟩) (wHb h (a1 0) (a2 0) (a3 0) (ah 0) (a5 0) k hs ++ (wSt E a1 ((fX6_move hs σ ny o η (xs ((nI i) + 1).toNatClampNeg) (xs ((nI i) + 2).toNatClampNeg)).2.1) ++ (wSt E a2 σn ++ (wSt E a3 σr ++ (wHs E ah hh ((fX6_move hs σ ny o η (xs ((nI i) + 1).toNatClampNeg) (xs ((nI i) + 2).toNatClampNeg)).2.2.1) ((fX6_move hs σ ny o η (xs ((nI i) + 1).toNatClampNeg) (xs ((nI i) + 2).toNatClampNeg)).2.2.2.1) ((fX6_move hs σ ny o η (xs ((nI i) + 1).toNatClampNeg) (xs ((nI i) + 2).toNatClampNeg)).2.2.2.2) ++ (wTx E a5 t ++ (wSh k j z sp ++ (wWk j d ++ wMd E am μ sp2)))))))) [0, 1, 2, 3, 4, 5, 6, 7, 8, 9, 28, 29, 30, 31, 32, 33, 34, 35, 36, 37, 38, 39, 40, 41, 42, 43, 44, 45, 46, 47, 48, 49, 50, 51, 52, 53, 54, 55, 56, 57, 58, 59, 60, 61, 62, 63, 64, 65] (hc_114 (E := E)) (by decide +kernel) (ha_114 (E := E)) (hw_114 (E := E)) (fun H locs w => ?_)
  refine lv_aload_n hx hb dL_law_192 rfl (lv_at hl 1 rfl) ?_
  refine lv_aload_n hx hb dL_law_193 rfl (lv_at hl 3 rfl) ?_
  refine lv_iload_n hx hb dL_law_194 rfl (lv_at hl 0 rfl) ?_
  refine lv_iconst (v := 1) hx hb dL_law_195 (by decide) ?_
  refine lv_iadd hx hb dL_law_196 ?_
  refine va_sld hx hb hX hbl hbA w.2.2 (sx_ix (k := 1) 1 rfl (by decide) hi hL) dL_law_197 ?_
  refine lv_aload_n hx hb dL_law_198 rfl (lv_at hl 3 rfl) ?_
  refine lv_iload_n hx hb dL_law_199 rfl (lv_at hl 0 rfl) ?_
  refine lv_iconst (v := 2) hx hb dL_law_200 (by decide) ?_
  refine lv_iadd hx hb dL_law_201 ?_
  refine va_sld hx hb hX hbl hbA w.2.2 (sx_ix (k := 2) 2 rfl (by decide) hi hL) dL_law_202 ?_
  refine r_ci w (r_runV (As := [.int (xs ((nI i) + 1).toNatClampNeg), .int (xs ((nI i) + 2).toNatClampNeg)]) (rest := [.int ((fX6_move hs σ ny o η (xs ((nI i) + 1).toNatClampNeg) (xs ((nI i) + 2).toNatClampNeg)).1)]) X w (kX7_move l E am μ sp2 (xs ((nI i) + 1).toNatClampNeg) (xs ((nI i) + 2).toNatClampNeg) (REL_gE R) (REL_gH R)) ck_L_26 ⟨Nat.le_of_ble_eq_true rfl, Nat.le_of_ble_eq_true rfl⟩ [72, 73, 74, 75, 76, 77, 78, 79, 80, 81] (hc_115 (E := E)) (by decide +kernel) (k0 := 0) CL7 rfl hl.1 (Nat.le_of_ble_eq_true rfl) rfl dL_law_203 ⟨Nat.le_of_ble_eq_true rfl, Nat.le_of_ble_eq_true rfl⟩) (wHb h (a1 0) (a2 0) (a3 0) (ah 0) (a5 0) k hs ++ (wSt E a1 ((fX6_move hs σ ny o η (xs ((nI i) + 1).toNatClampNeg) (xs ((nI i) + 2).toNatClampNeg)).2.1) ++ (wSt E a2 σn ++ (wSt E a3 σr ++ (wHs E ah hh ((fX6_move hs σ ny o η (xs ((nI i) + 1).toNatClampNeg) (xs ((nI i) + 2).toNatClampNeg)).2.2.1) ((fX6_move hs σ ny o η (xs ((nI i) + 1).toNatClampNeg) (xs ((nI i) + 2).toNatClampNeg)).2.2.2.1) ((fX6_move hs σ ny o η (xs ((nI i) + 1).toNatClampNeg) (xs ((nI i) + 2).toNatClampNeg)).2.2.2.2) ++ (wTx E a5 t ++ (wSh k j z sp ++ (wWk j d ++ wMd E am ((fX7_move μ sp2 (xs ((nI i) + 1).toNatClampNeg) (xs ((nI i) + 2).toNatClampNeg)).2) sp2)))))))) [72, 73, 74, 75, 76, 77, 78, 79, 80, 81] (hc_115 (E := E)) (by decide +kernel) (ha_115 (E := E)) (hw_115 (E := E)) (fun H locs w => ?_)
  refine lv_icmp_eq (tgt := 833) hx hb dL_law_206 (by decide) (fun _ => ?_) (fun h => absurd (s_move R).1 h)
  exact next _ _ _ _ _ _ _ _ _ _ _ _ _ _ _ _ (s_move R).2 w (lv_sub hl [0, 1, 2, 3] rfl)
theorem dL_law_211 : decode code 211 = .ok (.aload_n 1, 1) := by decide +kernel
theorem dL_law_212 : decode code 212 = .ok (.aload_n 0, 1) := by decide +kernel
theorem dL_law_213 : decode code 213 = .ok (.iload_n 3, 1) := by decide +kernel
theorem dL_law_214 : decode code 214 = .ok (.iconst 1, 1) := by decide +kernel
theorem dL_law_215 : decode code 215 = .ok (.iadd, 1) := by decide +kernel
theorem dL_law_216 : decode code 216 = .ok (.iaload, 1) := by decide +kernel
theorem dL_law_217 : decode code 217 = .ok (.invokevirtual 27, 3) := by decide +kernel
theorem dL_law_220 : decode code 220 = .ok (.aload_n 2, 1) := by decide +kernel
theorem dL_law_221 : decode code 221 = .ok (.aload_n 0, 1) := by decide +kernel
theorem dL_law_222 : decode code 222 = .ok (.iload_n 3, 1) := by decide +kernel
theorem dL_law_223 : decode code 223 = .ok (.iconst 1, 1) := by decide +kernel
theorem dL_law_224 : decode code 224 = .ok (.iadd, 1) := by decide +kernel
theorem dL_law_225 : decode code 225 = .ok (.iaload, 1) := by decide +kernel
theorem dL_law_226 : decode code 226 = .ok (.invokevirtual 31, 3) := by decide +kernel
theorem dL_law_229 : decode code 229 = .ok (.if_icmp .eq 604, 3) := by decide +kernel
theorem ck_L_27 : CkV RL 27 RX6 yX6_takeOff cX6_takeOff 3 (some .int) 1 := ⟨wm_L_27, wim_yX6_takeOff, wse_yX6_takeOff, wi_X6, wc_yX6_takeOff, by decide +kernel⟩
theorem ck_L_31 : CkV RL 31 RX7 yX7_takeOff cX7_takeOff 3 (some .int) 1 := ⟨wm_L_31, wim_yX7_takeOff, wse_yX7_takeOff, wi_X7, wc_yX7_takeOff, by decide +kernel⟩
set_option maxHeartbeats 4000000 in
set_option maxRecDepth 100000 in
theorem law_takeOff (X : Cx p m meth c code 8 s #[Value.ref b] RL E (lwA s)) (hX : va_X b L xs s s.heap) (hbl : b < s.heap.size) (hL : L ≤ 3072) (hi : i + 6 ≤ L) (R : REL hs σ σn ny o η t μ) (w : Wd E (lwA s) s (wHb h (a1 0) (a2 0) (a3 0) (ah 0) (a5 0) k hs ++ (wSt E a1 σ ++ (wSt E a2 σn ++ (wSt E a3 σr ++ (wHs E ah hh ny o η ++ (wTx E a5 t ++ (wSh k j z sp ++ (wWk j d ++ wMd E am μ sp2)))))))) H locs) (hl : lv_has ls 8 [(3, .int (nI i)), (2, .ref (am 0)), (1, .ref h), (0, .ref b)]) (next : NX p l e s m b below meth c E h k j a1 a2 a3 ah a5 am hh i) : W p l e room_1 s m #[Value.ref b] below meth c H locs 82 1976 (lw_Z below #[Value.ref b] s) (F0 m 211 ls []) := by
  have hx := X.1
  have hb := X.2.1
  have hbA : ¬ lwA s b := lwA_out s b hbl
  refine lv_aload_n hx hb dL_law_211 rfl (lv_at hl 2 rfl) ?_
  refine lv_aload_n hx hb dL_law_212 rfl (lv_at hl 3 rfl) ?_
  refine lv_iload_n hx hb dL_law_213 rfl (lv_at hl 0 rfl) ?_
  refine lv_iconst (v := 1) hx hb dL_law_214 (by decide) ?_
  refine lv_iadd hx hb dL_law_215 ?_
  refine va_sld hx hb hX hbl hbA w.2.2 (sx_ix (k := 1) 1 rfl (by decide) hi hL) dL_law_216 ?_
  refine r_ci w (r_runV (As := [.int (xs ((nI i) + 1).toNatClampNeg)]) (rest := []) X w (kX6_takeOff l E h (a2 0) (a3 0) (a5 0) k hs a1 σ ah hh ny o η (xs ((nI i) + 1).toNatClampNeg) ) ck_L_27 ⟨Nat.le_of_ble_eq_true rfl, Nat.le_of_ble_eq_true rfl⟩ [0, 1, 2, 3, 4, 5, 6, 7, 8, 9, 28, 29, 30, 31, 32, 33, 34, 35, 36, 37, 38, 39, 40, 41, 42, 43, 44, 45, 46, 47, 48, 49, 50, 51, 52, 53, 54, 55, 56, 57, 58, 59, 60, 61, 62, 63, 64, 65] (hc_114 (E := E)) (by decide +kernel) (k0 := 0) CL6 rfl hl.1 (Nat.le_of_ble_eq_true rfl) rfl dL_law_217 ⟨Nat.le_of_ble_eq_true rfl, Nat.le_of_ble_eq_true rfl⟩) (wHb h (a1 0) (a2 0) (a3 0) (ah 0) (a5 0) k hs ++ (wSt E a1 ((fX6_takeOff hs σ ny o η (xs ((nI i) + 1).toNatClampNeg)).2.1) ++ (wSt E a2 σn ++ (wSt E a3 σr ++ (wHs E ah hh ((fX6_takeOff hs σ ny o η (xs ((nI i) + 1).toNatClampNeg)).2.2.1) ((fX6_takeOff hs σ ny o η (xs ((nI i) + 1).toNatClampNeg)).2.2.2.1) ((fX6_takeOff hs σ ny o η (xs ((nI i) + 1).toNatClampNeg)).2.2.2.2) ++ (wTx E a5 t ++ (wSh k j z sp ++ (wWk j d ++ wMd E am μ sp2)))))))) [0, 1, 2, 3, 4, 5, 6, 7, 8, 9, 28, 29, 30, 31, 32, 33, 34, 35, 36, 37, 38, 39, 40, 41, 42, 43, 44, 45, 46, 47, 48, 49, 50, 51, 52, 53, 54, 55, 56, 57, 58, 59, 60, 61, 62, 63, 64, 65] (hc_114 (E := E)) (by decide +kernel) (ha_114 (E := E)) (hw_114 (E := E)) (fun H locs w => ?_)
  refine lv_aload_n hx hb dL_law_220 rfl (lv_at hl 1 rfl) ?_
  refine lv_aload_n hx hb dL_law_221 rfl (lv_at hl 3 rfl) ?_
  refine lv_iload_n hx hb dL_law_222 rfl (lv_at hl 0 rfl) ?_
  refine lv_iconst (v := 1) hx hb dL_law_223 (by decide) ?_
  refine lv_iadd hx hb dL_law_224 ?_
  refine va_sld hx hb hX hbl hbA w.2.2 (sx_ix (k := 1) 1 rfl (by decide) hi hL) dL_law_225 ?_
  refine r_ci w (r_runV (As := [.int (xs ((nI i) + 1).toNatClampNeg)]) (rest := [.int ((fX6_takeOff hs σ ny o η (xs ((nI i) + 1).toNatClampNeg)).1)]) X w (kX7_takeOff l E am μ sp2 (xs ((nI i) + 1).toNatClampNeg) (REL_gE R) (REL_gH R)) ck_L_31 ⟨Nat.le_of_ble_eq_true rfl, Nat.le_of_ble_eq_true rfl⟩ [72, 73, 74, 75, 76, 77, 78, 79, 80, 81] (hc_115 (E := E)) (by decide +kernel) (k0 := 0) CL7 rfl hl.1 (Nat.le_of_ble_eq_true rfl) rfl dL_law_226 ⟨Nat.le_of_ble_eq_true rfl, Nat.le_of_ble_eq_true rfl⟩) (wHb h (a1 0) (a2 0) (a3 0) (ah 0) (a5 0) k hs ++ (wSt E a1 ((fX6_takeOff hs σ ny o η (xs ((nI i) + 1).toNatClampNeg)).2.1) ++ (wSt E a2 σn ++ (wSt E a3 σr ++ (wHs E ah hh ((fX6_takeOff hs σ ny o η (xs ((nI i) + 1).toNatClampNeg)).2.2.1) ((fX6_takeOff hs σ ny o η (xs ((nI i) + 1).toNatClampNeg)).2.2.2.1) ((fX6_takeOff hs σ ny o η (xs ((nI i) + 1).toNatClampNeg)).2.2.2.2) ++ (wTx E a5 t ++ (wSh k j z sp ++ (wWk j d ++ wMd E am ((fX7_takeOff μ sp2 (xs ((nI i) + 1).toNatClampNeg)).2) sp2)))))))) [72, 73, 74, 75, 76, 77, 78, 79, 80, 81] (hc_115 (E := E)) (by decide +kernel) (ha_115 (E := E)) (hw_115 (E := E)) (fun H locs w => ?_)
  refine lv_icmp_eq (tgt := 833) hx hb dL_law_229 (by decide) (fun _ => ?_) (fun h => absurd (s_takeOff R).1 h)
  exact next _ _ _ _ _ _ _ _ _ _ _ _ _ _ _ _ (s_takeOff R).2 w (lv_sub hl [0, 1, 2, 3] rfl)
theorem dL_law_234 : decode code 234 = .ok (.aload_n 1, 1) := by decide +kernel
theorem dL_law_235 : decode code 235 = .ok (.aload_n 0, 1) := by decide +kernel
theorem dL_law_236 : decode code 236 = .ok (.iload_n 3, 1) := by decide +kernel
theorem dL_law_237 : decode code 237 = .ok (.iconst 1, 1) := by decide +kernel
theorem dL_law_238 : decode code 238 = .ok (.iadd, 1) := by decide +kernel
theorem dL_law_239 : decode code 239 = .ok (.iaload, 1) := by decide +kernel
theorem dL_law_240 : decode code 240 = .ok (.invokevirtual 32, 3) := by decide +kernel
theorem dL_law_243 : decode code 243 = .ok (.aload_n 2, 1) := by decide +kernel
theorem dL_law_244 : decode code 244 = .ok (.aload_n 0, 1) := by decide +kernel
theorem dL_law_245 : decode code 245 = .ok (.iload_n 3, 1) := by decide +kernel
theorem dL_law_246 : decode code 246 = .ok (.iconst 1, 1) := by decide +kernel
theorem dL_law_247 : decode code 247 = .ok (.iadd, 1) := by decide +kernel
theorem dL_law_248 : decode code 248 = .ok (.iaload, 1) := by decide +kernel
theorem dL_law_249 : decode code 249 = .ok (.invokevirtual 35, 3) := by decide +kernel
theorem dL_law_252 : decode code 252 = .ok (.if_icmp .eq 581, 3) := by decide +kernel
theorem ck_L_32 : CkV RL 32 RX6 yX6_setPots cX6_setPots 3 (some .int) 1 := ⟨wm_L_32, wim_yX6_setPots, wse_yX6_setPots, wi_X6, wc_yX6_setPots, by decide +kernel⟩
theorem ck_L_35 : CkV RL 35 RX7 yX7_setPots cX7_setPots 3 (some .int) 1 := ⟨wm_L_35, wim_yX7_setPots, wse_yX7_setPots, wi_X7, wc_yX7_setPots, by decide +kernel⟩
set_option maxHeartbeats 4000000 in
set_option maxRecDepth 100000 in
theorem law_setPots (X : Cx p m meth c code 8 s #[Value.ref b] RL E (lwA s)) (hX : va_X b L xs s s.heap) (hbl : b < s.heap.size) (hL : L ≤ 3072) (hi : i + 6 ≤ L) (R : REL hs σ σn ny o η t μ) (w : Wd E (lwA s) s (wHb h (a1 0) (a2 0) (a3 0) (ah 0) (a5 0) k hs ++ (wSt E a1 σ ++ (wSt E a2 σn ++ (wSt E a3 σr ++ (wHs E ah hh ny o η ++ (wTx E a5 t ++ (wSh k j z sp ++ (wWk j d ++ wMd E am μ sp2)))))))) H locs) (hl : lv_has ls 8 [(3, .int (nI i)), (2, .ref (am 0)), (1, .ref h), (0, .ref b)]) (next : NX p l e s m b below meth c E h k j a1 a2 a3 ah a5 am hh i) : W p l e room_1 s m #[Value.ref b] below meth c H locs 82 1976 (lw_Z below #[Value.ref b] s) (F0 m 234 ls []) := by
  have hx := X.1
  have hb := X.2.1
  have hbA : ¬ lwA s b := lwA_out s b hbl
  refine lv_aload_n hx hb dL_law_234 rfl (lv_at hl 2 rfl) ?_
  refine lv_aload_n hx hb dL_law_235 rfl (lv_at hl 3 rfl) ?_
  refine lv_iload_n hx hb dL_law_236 rfl (lv_at hl 0 rfl) ?_
  refine lv_iconst (v := 1) hx hb dL_law_237 (by decide) ?_
  refine lv_iadd hx hb dL_law_238 ?_
  refine va_sld hx hb hX hbl hbA w.2.2 (sx_ix (k := 1) 1 rfl (by decide) hi hL) dL_law_239 ?_
  refine r_ci w (r_runV (As := [.int (xs ((nI i) + 1).toNatClampNeg)]) (rest := []) X w (kX6_setPots l E h (a2 0) (a3 0) (a5 0) k hs a1 σ ah hh ny o η (xs ((nI i) + 1).toNatClampNeg) ) ck_L_32 ⟨Nat.le_of_ble_eq_true rfl, Nat.le_of_ble_eq_true rfl⟩ [0, 1, 2, 3, 4, 5, 6, 7, 8, 9, 28, 29, 30, 31, 32, 33, 34, 35, 36, 37, 38, 39, 40, 41, 42, 43, 44, 45, 46, 47, 48, 49, 50, 51, 52, 53, 54, 55, 56, 57, 58, 59, 60, 61, 62, 63, 64, 65] (hc_114 (E := E)) (by decide +kernel) (k0 := 0) CL6 rfl hl.1 (Nat.le_of_ble_eq_true rfl) rfl dL_law_240 ⟨Nat.le_of_ble_eq_true rfl, Nat.le_of_ble_eq_true rfl⟩) (wHb h (a1 0) (a2 0) (a3 0) (ah 0) (a5 0) k hs ++ (wSt E a1 ((fX6_setPots hs σ ny o η (xs ((nI i) + 1).toNatClampNeg)).2.1) ++ (wSt E a2 σn ++ (wSt E a3 σr ++ (wHs E ah hh ((fX6_setPots hs σ ny o η (xs ((nI i) + 1).toNatClampNeg)).2.2.1) ((fX6_setPots hs σ ny o η (xs ((nI i) + 1).toNatClampNeg)).2.2.2.1) ((fX6_setPots hs σ ny o η (xs ((nI i) + 1).toNatClampNeg)).2.2.2.2) ++ (wTx E a5 t ++ (wSh k j z sp ++ (wWk j d ++ wMd E am μ sp2)))))))) [0, 1, 2, 3, 4, 5, 6, 7, 8, 9, 28, 29, 30, 31, 32, 33, 34, 35, 36, 37, 38, 39, 40, 41, 42, 43, 44, 45, 46, 47, 48, 49, 50, 51, 52, 53, 54, 55, 56, 57, 58, 59, 60, 61, 62, 63, 64, 65] (hc_114 (E := E)) (by decide +kernel) (ha_114 (E := E)) (hw_114 (E := E)) (fun H locs w => ?_)
  refine lv_aload_n hx hb dL_law_243 rfl (lv_at hl 1 rfl) ?_
  refine lv_aload_n hx hb dL_law_244 rfl (lv_at hl 3 rfl) ?_
  refine lv_iload_n hx hb dL_law_245 rfl (lv_at hl 0 rfl) ?_
  refine lv_iconst (v := 1) hx hb dL_law_246 (by decide) ?_
  refine lv_iadd hx hb dL_law_247 ?_
  refine va_sld hx hb hX hbl hbA w.2.2 (sx_ix (k := 1) 1 rfl (by decide) hi hL) dL_law_248 ?_
  refine r_ci w (r_runV (As := [.int (xs ((nI i) + 1).toNatClampNeg)]) (rest := [.int ((fX6_setPots hs σ ny o η (xs ((nI i) + 1).toNatClampNeg)).1)]) X w (kX7_setPots l E am μ sp2 (xs ((nI i) + 1).toNatClampNeg) (REL_gH R)) ck_L_35 ⟨Nat.le_of_ble_eq_true rfl, Nat.le_of_ble_eq_true rfl⟩ [72, 73, 74, 75, 76, 77, 78, 79, 80, 81] (hc_115 (E := E)) (by decide +kernel) (k0 := 0) CL7 rfl hl.1 (Nat.le_of_ble_eq_true rfl) rfl dL_law_249 ⟨Nat.le_of_ble_eq_true rfl, Nat.le_of_ble_eq_true rfl⟩) (wHb h (a1 0) (a2 0) (a3 0) (ah 0) (a5 0) k hs ++ (wSt E a1 ((fX6_setPots hs σ ny o η (xs ((nI i) + 1).toNatClampNeg)).2.1) ++ (wSt E a2 σn ++ (wSt E a3 σr ++ (wHs E ah hh ((fX6_setPots hs σ ny o η (xs ((nI i) + 1).toNatClampNeg)).2.2.1) ((fX6_setPots hs σ ny o η (xs ((nI i) + 1).toNatClampNeg)).2.2.2.1) ((fX6_setPots hs σ ny o η (xs ((nI i) + 1).toNatClampNeg)).2.2.2.2) ++ (wTx E a5 t ++ (wSh k j z sp ++ (wWk j d ++ wMd E am ((fX7_setPots μ sp2 (xs ((nI i) + 1).toNatClampNeg)).2) sp2)))))))) [72, 73, 74, 75, 76, 77, 78, 79, 80, 81] (hc_115 (E := E)) (by decide +kernel) (ha_115 (E := E)) (hw_115 (E := E)) (fun H locs w => ?_)
  refine lv_icmp_eq (tgt := 833) hx hb dL_law_252 (by decide) (fun _ => ?_) (fun h => absurd (s_setPots R).1 h)
  exact next _ _ _ _ _ _ _ _ _ _ _ _ _ _ _ _ (s_setPots R).2 w (lv_sub hl [0, 1, 2, 3] rfl)
theorem dL_law_257 : decode code 257 = .ok (.aload_n 1, 1) := by decide +kernel
theorem dL_law_258 : decode code 258 = .ok (.aload_n 0, 1) := by decide +kernel
theorem dL_law_259 : decode code 259 = .ok (.iload_n 3, 1) := by decide +kernel
theorem dL_law_260 : decode code 260 = .ok (.iconst 1, 1) := by decide +kernel
theorem dL_law_261 : decode code 261 = .ok (.iadd, 1) := by decide +kernel
theorem dL_law_262 : decode code 262 = .ok (.iaload, 1) := by decide +kernel
theorem dL_law_263 : decode code 263 = .ok (.aload_n 0, 1) := by decide +kernel
theorem dL_law_264 : decode code 264 = .ok (.iload_n 3, 1) := by decide +kernel
theorem dL_law_265 : decode code 265 = .ok (.iconst 2, 1) := by decide +kernel
theorem dL_law_266 : decode code 266 = .ok (.iadd, 1) := by decide +kernel
theorem dL_law_267 : decode code 267 = .ok (.iaload, 1) := by decide +kernel
theorem dL_law_268 : decode code 268 = .ok (.invokevirtual 36, 3) := by decide +kernel
theorem dL_law_271 : decode code 271 = .ok (.aload_n 2, 1) := by decide +kernel
theorem dL_law_272 : decode code 272 = .ok (.aload_n 0, 1) := by decide +kernel
theorem dL_law_273 : decode code 273 = .ok (.iload_n 3, 1) := by decide +kernel
theorem dL_law_274 : decode code 274 = .ok (.iconst 1, 1) := by decide +kernel
theorem dL_law_275 : decode code 275 = .ok (.iadd, 1) := by decide +kernel
theorem dL_law_276 : decode code 276 = .ok (.iaload, 1) := by decide +kernel
theorem dL_law_277 : decode code 277 = .ok (.aload_n 0, 1) := by decide +kernel
theorem dL_law_278 : decode code 278 = .ok (.iload_n 3, 1) := by decide +kernel
theorem dL_law_279 : decode code 279 = .ok (.iconst 2, 1) := by decide +kernel
theorem dL_law_280 : decode code 280 = .ok (.iadd, 1) := by decide +kernel
theorem dL_law_281 : decode code 281 = .ok (.iaload, 1) := by decide +kernel
theorem dL_law_282 : decode code 282 = .ok (.invokevirtual 39, 3) := by decide +kernel
theorem dL_law_285 : decode code 285 = .ok (.if_icmp .eq 548, 3) := by decide +kernel
theorem ck_L_36 : CkV RL 36 RX6 yX6_set cX6_set 4 (some .int) 2 := ⟨wm_L_36, wim_yX6_set, wse_yX6_set, wi_X6, wc_yX6_set, by decide +kernel⟩
theorem ck_L_39 : CkV RL 39 RX7 yX7_set cX7_set 4 (some .int) 2 := ⟨wm_L_39, wim_yX7_set, wse_yX7_set, wi_X7, wc_yX7_set, by decide +kernel⟩
set_option maxHeartbeats 4000000 in
set_option maxRecDepth 100000 in
theorem law_set (X : Cx p m meth c code 8 s #[Value.ref b] RL E (lwA s)) (hX : va_X b L xs s s.heap) (hbl : b < s.heap.size) (hL : L ≤ 3072) (hi : i + 6 ≤ L) (R : REL hs σ σn ny o η t μ) (w : Wd E (lwA s) s (wHb h (a1 0) (a2 0) (a3 0) (ah 0) (a5 0) k hs ++ (wSt E a1 σ ++ (wSt E a2 σn ++ (wSt E a3 σr ++ (wHs E ah hh ny o η ++ (wTx E a5 t ++ (wSh k j z sp ++ (wWk j d ++ wMd E am μ sp2)))))))) H locs) (hl : lv_has ls 8 [(3, .int (nI i)), (2, .ref (am 0)), (1, .ref h), (0, .ref b)]) (next : NX p l e s m b below meth c E h k j a1 a2 a3 ah a5 am hh i) : W p l e room_1 s m #[Value.ref b] below meth c H locs 82 1976 (lw_Z below #[Value.ref b] s) (F0 m 257 ls []) := by
  have hx := X.1
  have hb := X.2.1
  have hbA : ¬ lwA s b := lwA_out s b hbl
  refine lv_aload_n hx hb dL_law_257 rfl (lv_at hl 2 rfl) ?_
  refine lv_aload_n hx hb dL_law_258 rfl (lv_at hl 3 rfl) ?_
  refine lv_iload_n hx hb dL_law_259 rfl (lv_at hl 0 rfl) ?_
  refine lv_iconst (v := 1) hx hb dL_law_260 (by decide) ?_
  refine lv_iadd hx hb dL_law_261 ?_
  refine va_sld hx hb hX hbl hbA w.2.2 (sx_ix (k := 1) 1 rfl (by decide) hi hL) dL_law_262 ?_
  refine lv_aload_n hx hb dL_law_263 rfl (lv_at hl 3 rfl) ?_
  refine lv_iload_n hx hb dL_law_264 rfl (lv_at hl 0 rfl) ?_
  refine lv_iconst (v := 2) hx hb dL_law_265 (by decide) ?_
  refine lv_iadd hx hb dL_law_266 ?_
  refine va_sld hx hb hX hbl hbA w.2.2 (sx_ix (k := 2) 2 rfl (by decide) hi hL) dL_law_267 ?_
  refine r_ci w (r_runV (As := [.int (xs ((nI i) + 1).toNatClampNeg), .int (xs ((nI i) + 2).toNatClampNeg)]) (rest := []) X w (kX6_set l E h (a2 0) (a3 0) (a5 0) k hs a1 σ ah hh ny o η (xs ((nI i) + 1).toNatClampNeg) (xs ((nI i) + 2).toNatClampNeg) ) ck_L_36 ⟨Nat.le_of_ble_eq_true rfl, Nat.le_of_ble_eq_true rfl⟩ [0, 1, 2, 3, 4, 5, 6, 7, 8, 9, 28, 29, 30, 31, 32, 33, 34, 35, 36, 37, 38, 39, 40, 41, 42, 43, 44, 45, 46, 47, 48, 49, 50, 51, 52, 53, 54, 55, 56, 57, 58, 59, 60, 61, 62, 63, 64, 65] (hc_114 (E := E)) (by decide +kernel) (k0 := 0) CL6 rfl hl.1 (Nat.le_of_ble_eq_true rfl) rfl dL_law_268 ⟨Nat.le_of_ble_eq_true rfl, Nat.le_of_ble_eq_true rfl⟩) (wHb h (a1 0) (a2 0) (a3 0) (ah 0) (a5 0) k hs ++ (wSt E a1 ((fX6_set hs σ ny o η (xs ((nI i) + 1).toNatClampNeg) (xs ((nI i) + 2).toNatClampNeg)).2.1) ++ (wSt E a2 σn ++ (wSt E a3 σr ++ (wHs E ah hh ((fX6_set hs σ ny o η (xs ((nI i) + 1).toNatClampNeg) (xs ((nI i) + 2).toNatClampNeg)).2.2.1) ((fX6_set hs σ ny o η (xs ((nI i) + 1).toNatClampNeg) (xs ((nI i) + 2).toNatClampNeg)).2.2.2.1) ((fX6_set hs σ ny o η (xs ((nI i) + 1).toNatClampNeg) (xs ((nI i) + 2).toNatClampNeg)).2.2.2.2) ++ (wTx E a5 t ++ (wSh k j z sp ++ (wWk j d ++ wMd E am μ sp2)))))))) [0, 1, 2, 3, 4, 5, 6, 7, 8, 9, 28, 29, 30, 31, 32, 33, 34, 35, 36, 37, 38, 39, 40, 41, 42, 43, 44, 45, 46, 47, 48, 49, 50, 51, 52, 53, 54, 55, 56, 57, 58, 59, 60, 61, 62, 63, 64, 65] (hc_114 (E := E)) (by decide +kernel) (ha_114 (E := E)) (hw_114 (E := E)) (fun H locs w => ?_)
  refine lv_aload_n hx hb dL_law_271 rfl (lv_at hl 1 rfl) ?_
  refine lv_aload_n hx hb dL_law_272 rfl (lv_at hl 3 rfl) ?_
  refine lv_iload_n hx hb dL_law_273 rfl (lv_at hl 0 rfl) ?_
  refine lv_iconst (v := 1) hx hb dL_law_274 (by decide) ?_
  refine lv_iadd hx hb dL_law_275 ?_
  refine va_sld hx hb hX hbl hbA w.2.2 (sx_ix (k := 1) 1 rfl (by decide) hi hL) dL_law_276 ?_
  refine lv_aload_n hx hb dL_law_277 rfl (lv_at hl 3 rfl) ?_
  refine lv_iload_n hx hb dL_law_278 rfl (lv_at hl 0 rfl) ?_
  refine lv_iconst (v := 2) hx hb dL_law_279 (by decide) ?_
  refine lv_iadd hx hb dL_law_280 ?_
  refine va_sld hx hb hX hbl hbA w.2.2 (sx_ix (k := 2) 2 rfl (by decide) hi hL) dL_law_281 ?_
  refine r_ci w (r_runV (As := [.int (xs ((nI i) + 1).toNatClampNeg), .int (xs ((nI i) + 2).toNatClampNeg)]) (rest := [.int ((fX6_set hs σ ny o η (xs ((nI i) + 1).toNatClampNeg) (xs ((nI i) + 2).toNatClampNeg)).1)]) X w (kX7_set l E am μ sp2 (xs ((nI i) + 1).toNatClampNeg) (xs ((nI i) + 2).toNatClampNeg) (REL_gH R)) ck_L_39 ⟨Nat.le_of_ble_eq_true rfl, Nat.le_of_ble_eq_true rfl⟩ [72, 73, 74, 75, 76, 77, 78, 79, 80, 81] (hc_115 (E := E)) (by decide +kernel) (k0 := 0) CL7 rfl hl.1 (Nat.le_of_ble_eq_true rfl) rfl dL_law_282 ⟨Nat.le_of_ble_eq_true rfl, Nat.le_of_ble_eq_true rfl⟩) (wHb h (a1 0) (a2 0) (a3 0) (ah 0) (a5 0) k hs ++ (wSt E a1 ((fX6_set hs σ ny o η (xs ((nI i) + 1).toNatClampNeg) (xs ((nI i) + 2).toNatClampNeg)).2.1) ++ (wSt E a2 σn ++ (wSt E a3 σr ++ (wHs E ah hh ((fX6_set hs σ ny o η (xs ((nI i) + 1).toNatClampNeg) (xs ((nI i) + 2).toNatClampNeg)).2.2.1) ((fX6_set hs σ ny o η (xs ((nI i) + 1).toNatClampNeg) (xs ((nI i) + 2).toNatClampNeg)).2.2.2.1) ((fX6_set hs σ ny o η (xs ((nI i) + 1).toNatClampNeg) (xs ((nI i) + 2).toNatClampNeg)).2.2.2.2) ++ (wTx E a5 t ++ (wSh k j z sp ++ (wWk j d ++ wMd E am ((fX7_set μ sp2 (xs ((nI i) + 1).toNatClampNeg) (xs ((nI i) + 2).toNatClampNeg)).2) sp2)))))))) [72, 73, 74, 75, 76, 77, 78, 79, 80, 81] (hc_115 (E := E)) (by decide +kernel) (ha_115 (E := E)) (hw_115 (E := E)) (fun H locs w => ?_)
  refine lv_icmp_eq (tgt := 833) hx hb dL_law_285 (by decide) (fun _ => ?_) (fun h => absurd (s_set R).1 h)
  exact next _ _ _ _ _ _ _ _ _ _ _ _ _ _ _ _ (s_set R).2 w (lv_sub hl [0, 1, 2, 3] rfl)
theorem dL_law_290 : decode code 290 = .ok (.aload_n 1, 1) := by decide +kernel
theorem dL_law_291 : decode code 291 = .ok (.aload_n 0, 1) := by decide +kernel
theorem dL_law_292 : decode code 292 = .ok (.iload_n 3, 1) := by decide +kernel
theorem dL_law_293 : decode code 293 = .ok (.iconst 1, 1) := by decide +kernel
theorem dL_law_294 : decode code 294 = .ok (.iadd, 1) := by decide +kernel
theorem dL_law_295 : decode code 295 = .ok (.iaload, 1) := by decide +kernel
theorem dL_law_296 : decode code 296 = .ok (.aload_n 0, 1) := by decide +kernel
theorem dL_law_297 : decode code 297 = .ok (.iload_n 3, 1) := by decide +kernel
theorem dL_law_298 : decode code 298 = .ok (.iconst 2, 1) := by decide +kernel
theorem dL_law_299 : decode code 299 = .ok (.iadd, 1) := by decide +kernel
theorem dL_law_300 : decode code 300 = .ok (.iaload, 1) := by decide +kernel
theorem dL_law_301 : decode code 301 = .ok (.aload_n 0, 1) := by decide +kernel
theorem dL_law_302 : decode code 302 = .ok (.iload_n 3, 1) := by decide +kernel
theorem dL_law_303 : decode code 303 = .ok (.iconst 3, 1) := by decide +kernel
theorem dL_law_304 : decode code 304 = .ok (.iadd, 1) := by decide +kernel
theorem dL_law_305 : decode code 305 = .ok (.iaload, 1) := by decide +kernel
theorem dL_law_306 : decode code 306 = .ok (.aload_n 0, 1) := by decide +kernel
theorem dL_law_307 : decode code 307 = .ok (.iload_n 3, 1) := by decide +kernel
theorem dL_law_308 : decode code 308 = .ok (.iconst 4, 1) := by decide +kernel
theorem dL_law_309 : decode code 309 = .ok (.iadd, 1) := by decide +kernel
theorem dL_law_310 : decode code 310 = .ok (.iaload, 1) := by decide +kernel
theorem dL_law_311 : decode code 311 = .ok (.aload_n 0, 1) := by decide +kernel
theorem dL_law_312 : decode code 312 = .ok (.iload_n 3, 1) := by decide +kernel
theorem dL_law_313 : decode code 313 = .ok (.iconst 5, 1) := by decide +kernel
theorem dL_law_314 : decode code 314 = .ok (.iadd, 1) := by decide +kernel
theorem dL_law_315 : decode code 315 = .ok (.iaload, 1) := by decide +kernel
theorem dL_law_316 : decode code 316 = .ok (.invokevirtual 40, 3) := by decide +kernel
theorem dL_law_319 : decode code 319 = .ok (.aload_n 2, 1) := by decide +kernel
theorem dL_law_320 : decode code 320 = .ok (.aload_n 0, 1) := by decide +kernel
theorem dL_law_321 : decode code 321 = .ok (.iload_n 3, 1) := by decide +kernel
theorem dL_law_322 : decode code 322 = .ok (.iconst 1, 1) := by decide +kernel
theorem dL_law_323 : decode code 323 = .ok (.iadd, 1) := by decide +kernel
theorem dL_law_324 : decode code 324 = .ok (.iaload, 1) := by decide +kernel
theorem dL_law_325 : decode code 325 = .ok (.aload_n 0, 1) := by decide +kernel
theorem dL_law_326 : decode code 326 = .ok (.iload_n 3, 1) := by decide +kernel
theorem dL_law_327 : decode code 327 = .ok (.iconst 2, 1) := by decide +kernel
theorem dL_law_328 : decode code 328 = .ok (.iadd, 1) := by decide +kernel
theorem dL_law_329 : decode code 329 = .ok (.iaload, 1) := by decide +kernel
theorem dL_law_330 : decode code 330 = .ok (.aload_n 0, 1) := by decide +kernel
theorem dL_law_331 : decode code 331 = .ok (.iload_n 3, 1) := by decide +kernel
theorem dL_law_332 : decode code 332 = .ok (.iconst 3, 1) := by decide +kernel
theorem dL_law_333 : decode code 333 = .ok (.iadd, 1) := by decide +kernel
theorem dL_law_334 : decode code 334 = .ok (.iaload, 1) := by decide +kernel
theorem dL_law_335 : decode code 335 = .ok (.aload_n 0, 1) := by decide +kernel
theorem dL_law_336 : decode code 336 = .ok (.iload_n 3, 1) := by decide +kernel
theorem dL_law_337 : decode code 337 = .ok (.iconst 4, 1) := by decide +kernel
theorem dL_law_338 : decode code 338 = .ok (.iadd, 1) := by decide +kernel
theorem dL_law_339 : decode code 339 = .ok (.iaload, 1) := by decide +kernel
theorem dL_law_340 : decode code 340 = .ok (.aload_n 0, 1) := by decide +kernel
theorem dL_law_341 : decode code 341 = .ok (.iload_n 3, 1) := by decide +kernel
theorem dL_law_342 : decode code 342 = .ok (.iconst 5, 1) := by decide +kernel
theorem dL_law_343 : decode code 343 = .ok (.iadd, 1) := by decide +kernel
theorem dL_law_344 : decode code 344 = .ok (.iaload, 1) := by decide +kernel
theorem dL_law_345 : decode code 345 = .ok (.invokevirtual 44, 3) := by decide +kernel
theorem dL_law_348 : decode code 348 = .ok (.if_icmp .eq 485, 3) := by decide +kernel
theorem ck_L_40 : CkV RL 40 RX6 yX6_shoot cX6_shoot 7 (some .int) 5 := ⟨wm_L_40, wim_yX6_shoot, wse_yX6_shoot, wi_X6, wc_yX6_shoot, by decide +kernel⟩
theorem ck_L_44 : CkV RL 44 RX7 yX7_shoot cX7_shoot 7 (some .int) 5 := ⟨wm_L_44, wim_yX7_shoot, wse_yX7_shoot, wi_X7, wc_yX7_shoot, by decide +kernel⟩
theorem hc_117 {E : Ev} {a0 p0_0 p0_1 p0_2 p0_3 p0_4 p0_5 : Nat} {n0 : Int32} {a1 : Nat → Nat} {σ1 : N2} {a2 : Nat → Nat} {σ2 : N2} {a3 : Nat → Nat} {σ3 : N2} {a4 : Nat → Nat} {h4 : Nat → Nat → Nat} {n4 : Int32} {η4 : Nat → N2} {o4 : Nat} {a5 : Nat → Nat} {σ5 : N2} {a6 j6 : Nat} {σ6 : N1} {v6 : UInt32} {a7 : Nat} {σ7 : N1} {a8 : Nat → Nat} {σ8 : N2} {v8 : UInt32} : ([0, 1, 2, 3, 4, 5, 6, 7, 8, 9, 28, 29, 30, 31, 32, 33, 34, 35, 36, 37, 38, 39, 40, 41, 42, 43, 44, 45, 46, 47, 48, 49, 50, 51, 52, 53, 54, 55, 56, 57, 58, 59, 60, 61, 62, 63, 64, 65, 70, 71] : List Nat).map (fun i => (wHb a0 p0_0 p0_1 p0_2 p0_3 p0_4 p0_5 n0 ++ (wSt E a1 σ1 ++ (wSt E a2 σ2 ++ (wSt E a3 σ3 ++ (wHs E a4 h4 n4 o4 η4 ++ (wTx E a5 σ5 ++ (wSh a6 j6 σ6 v6 ++ (wWk a7 σ7 ++ wMd E a8 σ8 v8))))))))[i]?) = (wHb a0 p0_0 p0_1 p0_2 p0_3 p0_4 p0_5 n0 ++ (wSt E a1 σ1 ++ (wHs E a4 h4 n4 o4 η4 ++ (wSh a6 j6 σ6 v6 ++ wWk a7 σ7)))).map some := get_app (is1 := rg 0 1) (is2 := rg 1 9 ++ (rg 28 38 ++ (rg 70 1 ++ (rg 71 1)))) (by rw [show wHb a0 p0_0 p0_1 p0_2 p0_3 p0_4 p0_5 n0 ++ (wSt E a1 σ1 ++ (wSt E a2 σ2 ++ (wSt E a3 σ3 ++ (wHs E a4 h4 n4 o4 η4 ++ (wTx E a5 σ5 ++ (wSh a6 j6 σ6 v6 ++ (wWk a7 σ7 ++ (wMd E a8 σ8 v8)))))))) = ([] : va_W) ++ (wHb a0 p0_0 p0_1 p0_2 p0_3 p0_4 p0_5 n0 ++ (wSt E a1 σ1 ++ (wSt E a2 σ2 ++ (wSt E a3 σ3 ++ (wHs E a4 h4 n4 o4 η4 ++ (wTx E a5 σ5 ++ (wSh a6 j6 σ6 v6 ++ (wWk a7 σ7 ++ (wMd E a8 σ8 v8))))))))) by simp only [List.append_assoc, List.nil_append, List.append_nil]]; exact get1 (s := 0) (n := 1) rfl rfl) (get_app (is1 := rg 1 9) (is2 := rg 28 38 ++ (rg 70 1 ++ (rg 71 1))) (by rw [show wHb a0 p0_0 p0_1 p0_2 p0_3 p0_4 p0_5 n0 ++ (wSt E a1 σ1 ++ (wSt E a2 σ2 ++ (wSt E a3 σ3 ++ (wHs E a4 h4 n4 o4 η4 ++ (wTx E a5 σ5 ++ (wSh a6 j6 σ6 v6 ++ (wWk a7 σ7 ++ (wMd E a8 σ8 v8)))))))) = (wHb a0 p0_0 p0_1 p0_2 p0_3 p0_4 p0_5 n0) ++ (wSt E a1 σ1 ++ (wSt E a2 σ2 ++ (wSt E a3 σ3 ++ (wHs E a4 h4 n4 o4 η4 ++ (wTx E a5 σ5 ++ (wSh a6 j6 σ6 v6 ++ (wWk a7 σ7 ++ (wMd E a8 σ8 v8)))))))) by simp only [List.append_assoc, List.nil_append, List.append_nil]]; exact get1 (s := 1) (n := 9) rfl rfl) (get_app (is1 := rg 28 38) (is2 := rg 70 1 ++ (rg 71 1)) (by rw [show wHb a0 p0_0 p0_1 p0_2 p0_3 p0_4 p0_5 n0 ++ (wSt E a1 σ1 ++ (wSt E a2 σ2 ++ (wSt E a3 σ3 ++ (wHs E a4 h4 n4 o4 η4 ++ (wTx E a5 σ5 ++ (wSh a6 j6 σ6 v6 ++ (wWk a7 σ7 ++ (wMd E a8 σ8 v8)))))))) = (wHb a0 p0_0 p0_1 p0_2 p0_3 p0_4 p0_5 n0 ++ (wSt E a1 σ1 ++ (wSt E a2 σ2 ++ (wSt E a3 σ3)))) ++ (wHs E a4 h4 n4 o4 η4 ++ (wTx E a5 σ5 ++ (wSh a6 j6 σ6 v6 ++ (wWk a7 σ7 ++ (wMd E a8 σ8 v8))))) by simp only [List.append_assoc, List.nil_append, List.append_nil]]; exact get1 (s := 28) (n := 38) rfl rfl) (get_app (is1 := rg 70 1) (is2 := rg 71 1) (by rw [show wHb a0 p0_0 p0_1 p0_2 p0_3 p0_4 p0_5 n0 ++ (wSt E a1 σ1 ++ (wSt E a2 σ2 ++ (wSt E a3 σ3 ++ (wHs E a4 h4 n4 o4 η4 ++ (wTx E a5 σ5 ++ (wSh a6 j6 σ6 v6 ++ (wWk a7 σ7 ++ (wMd E a8 σ8 v8)))))))) = (wHb a0 p0_0 p0_1 p0_2 p0_3 p0_4 p0_5 n0 ++ (wSt E a1 σ1 ++ (wSt E a2 σ2 ++ (wSt E a3 σ3 ++ (wHs E a4 h4 n4 o4 η4 ++ (wTx E a5 σ5)))))) ++ (wSh a6 j6 σ6 v6 ++ (wWk a7 σ7 ++ (wMd E a8 σ8 v8))) by simp only [List.append_assoc, List.nil_append, List.append_nil]]; exact get1 (s := 70) (n := 1) rfl rfl) ((by rw [show wHb a0 p0_0 p0_1 p0_2 p0_3 p0_4 p0_5 n0 ++ (wSt E a1 σ1 ++ (wSt E a2 σ2 ++ (wSt E a3 σ3 ++ (wHs E a4 h4 n4 o4 η4 ++ (wTx E a5 σ5 ++ (wSh a6 j6 σ6 v6 ++ (wWk a7 σ7 ++ (wMd E a8 σ8 v8)))))))) = (wHb a0 p0_0 p0_1 p0_2 p0_3 p0_4 p0_5 n0 ++ (wSt E a1 σ1 ++ (wSt E a2 σ2 ++ (wSt E a3 σ3 ++ (wHs E a4 h4 n4 o4 η4 ++ (wTx E a5 σ5 ++ (wSh a6 j6 σ6 v6))))))) ++ (wWk a7 σ7 ++ (wMd E a8 σ8 v8)) by simp only [List.append_assoc, List.nil_append, List.append_nil]]; exact get1 (s := 71) (n := 1) rfl rfl)))))
theorem ha_117 {E : Ev} {a0 p0_0 p0_1 p0_2 p0_3 p0_4 p0_5 : Nat} {n0 : Int32} {a1 : Nat → Nat} {σ1 : N2} {a4 : Nat → Nat} {h4 : Nat → Nat → Nat} {n4 : Int32} {η4 : Nat → N2} {o4 : Nat} {a6 j6 : Nat} {σ6 : N1} {v6 : UInt32} {a7 : Nat} {σ7 : N1} {τ0_0 : Int32} {τ1_0 : N2} {τ2_0 : Int32} {τ2_1 : Nat} {τ2_2 : Nat → N2} {τ3_0 : N1} {τ3_1 : UInt32} {τ4_0 : N1} : (wHb a0 p0_0 p0_1 p0_2 p0_3 p0_4 p0_5 τ0_0 ++ (wSt E a1 τ1_0 ++ (wHs E a4 h4 τ2_0 τ2_1 τ2_2 ++ (wSh a6 j6 τ3_0 τ3_1 ++ wWk a7 τ4_0)))).map Prod.fst = (wHb a0 p0_0 p0_1 p0_2 p0_3 p0_4 p0_5 n0 ++ (wSt E a1 σ1 ++ (wHs E a4 h4 n4 o4 η4 ++ (wSh a6 j6 σ6 v6 ++ wWk a7 σ7)))).map Prod.fst := fst_app fst_Hb (fst_app fst_St (fst_app fst_Hs (fst_app fst_Sh (fst_Wk))))
theorem hw_117 {E : Ev} {a0 p0_0 p0_1 p0_2 p0_3 p0_4 p0_5 : Nat} {n0 : Int32} {a1 : Nat → Nat} {σ1 : N2} {a2 : Nat → Nat} {σ2 : N2} {a3 : Nat → Nat} {σ3 : N2} {a4 : Nat → Nat} {h4 : Nat → Nat → Nat} {n4 : Int32} {η4 : Nat → N2} {o4 : Nat} {a5 : Nat → Nat} {σ5 : N2} {a6 j6 : Nat} {σ6 : N1} {v6 : UInt32} {a7 : Nat} {σ7 : N1} {a8 : Nat → Nat} {σ8 : N2} {v8 : UInt32} {τ0_0 : Int32} {τ1_0 : N2} {τ2_0 : Int32} {τ2_1 : Nat} {τ2_2 : Nat → N2} {τ3_0 : N1} {τ3_1 : UInt32} {τ4_0 : N1} : wput (wHb a0 p0_0 p0_1 p0_2 p0_3 p0_4 p0_5 n0 ++ (wSt E a1 σ1 ++ (wSt E a2 σ2 ++ (wSt E a3 σ3 ++ (wHs E a4 h4 n4 o4 η4 ++ (wTx E a5 σ5 ++ (wSh a6 j6 σ6 v6 ++ (wWk a7 σ7 ++ wMd E a8 σ8 v8)))))))) [0, 1, 2, 3, 4, 5, 6, 7, 8, 9, 28, 29, 30, 31, 32, 33, 34, 35, 36, 37, 38, 39, 40, 41, 42, 43, 44, 45, 46, 47, 48, 49, 50, 51, 52, 53, 54, 55, 56, 57, 58, 59, 60, 61, 62, 63, 64, 65, 70, 71] (wHb a0 p0_0 p0_1 p0_2 p0_3 p0_4 p0_5 τ0_0 ++ (wSt E a1 τ1_0 ++ (wHs E a4 h4 τ2_0 τ2_1 τ2_2 ++ (wSh a6 j6 τ3_0 τ3_1 ++ wWk a7 τ4_0)))) = wHb a0 p0_0 p0_1 p0_2 p0_3 p0_4 p0_5 τ0_0 ++ (wSt E a1 τ1_0 ++ (wSt E a2 σ2 ++ (wSt E a3 σ3 ++ (wHs E a4 h4 τ2_0 τ2_1 τ2_2 ++ (wTx E a5 σ5 ++ (wSh a6 j6 τ3_0 τ3_1 ++ (wWk a7 τ4_0 ++ wMd E a8 σ8 v8))))))) := by
  show wput (wHb a0 p0_0 p0_1 p0_2 p0_3 p0_4 p0_5 n0 ++ (wSt E a1 σ1 ++ (wSt E a2 σ2 ++ (wSt E a3 σ3 ++ (wHs E a4 h4 n4 o4 η4 ++ (wTx E a5 σ5 ++ (wSh a6 j6 σ6 v6 ++ (wWk a7 σ7 ++ (wMd E a8 σ8 v8))))))))) (rg 0 1 ++ (rg 1 9 ++ (rg 28 38 ++ (rg 70 1 ++ (rg 71 1))))) (wHb a0 p0_0 p0_1 p0_2 p0_3 p0_4 p0_5 τ0_0 ++ (wSt E a1 τ1_0 ++ (wHs E a4 h4 τ2_0 τ2_1 τ2_2 ++ (wSh a6 j6 τ3_0 τ3_1 ++ wWk a7 τ4_0)))) = _
  rw [wput_app rfl]
  rw [show wHb a0 p0_0 p0_1 p0_2 p0_3 p0_4 p0_5 n0 ++ (wSt E a1 σ1 ++ (wSt E a2 σ2 ++ (wSt E a3 σ3 ++ (wHs E a4 h4 n4 o4 η4 ++ (wTx E a5 σ5 ++ (wSh a6 j6 σ6 v6 ++ (wWk a7 σ7 ++ (wMd E a8 σ8 v8)))))))) = ([] : va_W) ++ (wHb a0 p0_0 p0_1 p0_2 p0_3 p0_4 p0_5 n0 ++ (wSt E a1 σ1 ++ (wSt E a2 σ2 ++ (wSt E a3 σ3 ++ (wHs E a4 h4 n4 o4 η4 ++ (wTx E a5 σ5 ++ (wSh a6 j6 σ6 v6 ++ (wWk a7 σ7 ++ (wMd E a8 σ8 v8))))))))) by simp only [List.append_assoc, List.nil_append, List.append_nil], put1 (s := 0) (n := 1) rfl rfl rfl]
  rw [wput_app rfl]
  rw [show ([] : va_W) ++ (wHb a0 p0_0 p0_1 p0_2 p0_3 p0_4 p0_5 τ0_0 ++ (wSt E a1 σ1 ++ (wSt E a2 σ2 ++ (wSt E a3 σ3 ++ (wHs E a4 h4 n4 o4 η4 ++ (wTx E a5 σ5 ++ (wSh a6 j6 σ6 v6 ++ (wWk a7 σ7 ++ (wMd E a8 σ8 v8))))))))) = (wHb a0 p0_0 p0_1 p0_2 p0_3 p0_4 p0_5 τ0_0) ++ (wSt E a1 σ1 ++ (wSt E a2 σ2 ++ (wSt E a3 σ3 ++ (wHs E a4 h4 n4 o4 η4 ++ (wTx E a5 σ5 ++ (wSh a6 j6 σ6 v6 ++ (wWk a7 σ7 ++ (wMd E a8 σ8 v8)))))))) by simp only [List.append_assoc, List.nil_append, List.append_nil], put1 (s := 1) (n := 9) rfl rfl rfl]
  rw [wput_app rfl]
  rw [show (wHb a0 p0_0 p0_1 p0_2 p0_3 p0_4 p0_5 τ0_0) ++ (wSt E a1 τ1_0 ++ (wSt E a2 σ2 ++ (wSt E a3 σ3 ++ (wHs E a4 h4 n4 o4 η4 ++ (wTx E a5 σ5 ++ (wSh a6 j6 σ6 v6 ++ (wWk a7 σ7 ++ (wMd E a8 σ8 v8)))))))) = (wHb a0 p0_0 p0_1 p0_2 p0_3 p0_4 p0_5 τ0_0 ++ (wSt E a1 τ1_0 ++ (wSt E a2 σ2 ++ (wSt E a3 σ3)))) ++ (wHs E a4 h4 n4 o4 η4 ++ (wTx E a5 σ5 ++ (wSh a6 j6 σ6 v6 ++ (wWk a7 σ7 ++ (wMd E a8 σ8 v8))))) by simp only [List.append_assoc, List.nil_append, List.append_nil], put1 (s := 28) (n := 38) rfl rfl rfl]
  rw [wput_app rfl]
  rw [show (wHb a0 p0_0 p0_1 p0_2 p0_3 p0_4 p0_5 τ0_0 ++ (wSt E a1 τ1_0 ++ (wSt E a2 σ2 ++ (wSt E a3 σ3)))) ++ (wHs E a4 h4 τ2_0 τ2_1 τ2_2 ++ (wTx E a5 σ5 ++ (wSh a6 j6 σ6 v6 ++ (wWk a7 σ7 ++ (wMd E a8 σ8 v8))))) = (wHb a0 p0_0 p0_1 p0_2 p0_3 p0_4 p0_5 τ0_0 ++ (wSt E a1 τ1_0 ++ (wSt E a2 σ2 ++ (wSt E a3 σ3 ++ (wHs E a4 h4 τ2_0 τ2_1 τ2_2 ++ (wTx E a5 σ5)))))) ++ (wSh a6 j6 σ6 v6 ++ (wWk a7 σ7 ++ (wMd E a8 σ8 v8))) by simp only [List.append_assoc, List.nil_append, List.append_nil], put1 (s := 70) (n := 1) rfl rfl rfl]
  rw [show (wHb a0 p0_0 p0_1 p0_2 p0_3 p0_4 p0_5 τ0_0 ++ (wSt E a1 τ1_0 ++ (wSt E a2 σ2 ++ (wSt E a3 σ3 ++ (wHs E a4 h4 τ2_0 τ2_1 τ2_2 ++ (wTx E a5 σ5)))))) ++ (wSh a6 j6 τ3_0 τ3_1 ++ (wWk a7 σ7 ++ (wMd E a8 σ8 v8))) = (wHb a0 p0_0 p0_1 p0_2 p0_3 p0_4 p0_5 τ0_0 ++ (wSt E a1 τ1_0 ++ (wSt E a2 σ2 ++ (wSt E a3 σ3 ++ (wHs E a4 h4 τ2_0 τ2_1 τ2_2 ++ (wTx E a5 σ5 ++ (wSh a6 j6 τ3_0 τ3_1))))))) ++ (wWk a7 σ7 ++ (wMd E a8 σ8 v8)) by simp only [List.append_assoc, List.nil_append, List.append_nil], put1 (s := 71) (n := 1) rfl rfl rfl]
  try simp only [List.append_assoc, List.nil_append, List.append_nil]
set_option maxHeartbeats 4000000 in
set_option maxRecDepth 100000 in
theorem law_shoot (X : Cx p m meth c code 8 s #[Value.ref b] RL E (lwA s)) (hX : va_X b L xs s s.heap) (hbl : b < s.heap.size) (hL : L ≤ 3072) (hi : i + 6 ≤ L) (R : REL hs σ σn ny o η t μ) (w : Wd E (lwA s) s (wHb h (a1 0) (a2 0) (a3 0) (ah 0) (a5 0) k hs ++ (wSt E a1 σ ++ (wSt E a2 σn ++ (wSt E a3 σr ++ (wHs E ah hh ny o η ++ (wTx E a5 t ++ (wSh k j z sp ++ (wWk j d ++ wMd E am μ sp2)))))))) H locs) (hl : lv_has ls 8 [(3, .int (nI i)), (2, .ref (am 0)), (1, .ref h), (0, .ref b)]) (next : NX p l e s m b below meth c E h k j a1 a2 a3 ah a5 am hh i) : W p l e room_1 s m #[Value.ref b] below meth c H locs 82 1976 (lw_Z below #[Value.ref b] s) (F0 m 290 ls []) := by
  have hx := X.1
  have hb := X.2.1
  have hbA : ¬ lwA s b := lwA_out s b hbl
  refine lv_aload_n hx hb dL_law_290 rfl (lv_at hl 2 rfl) ?_
  refine lv_aload_n hx hb dL_law_291 rfl (lv_at hl 3 rfl) ?_
  refine lv_iload_n hx hb dL_law_292 rfl (lv_at hl 0 rfl) ?_
  refine lv_iconst (v := 1) hx hb dL_law_293 (by decide) ?_
  refine lv_iadd hx hb dL_law_294 ?_
  refine va_sld hx hb hX hbl hbA w.2.2 (sx_ix (k := 1) 1 rfl (by decide) hi hL) dL_law_295 ?_
  refine lv_aload_n hx hb dL_law_296 rfl (lv_at hl 3 rfl) ?_
  refine lv_iload_n hx hb dL_law_297 rfl (lv_at hl 0 rfl) ?_
  refine lv_iconst (v := 2) hx hb dL_law_298 (by decide) ?_
  refine lv_iadd hx hb dL_law_299 ?_
  refine va_sld hx hb hX hbl hbA w.2.2 (sx_ix (k := 2) 2 rfl (by decide) hi hL) dL_law_300 ?_
  refine lv_aload_n hx hb dL_law_301 rfl (lv_at hl 3 rfl) ?_
  refine lv_iload_n hx hb dL_law_302 rfl (lv_at hl 0 rfl) ?_
  refine lv_iconst (v := 3) hx hb dL_law_303 (by decide) ?_
  refine lv_iadd hx hb dL_law_304 ?_
  refine va_sld hx hb hX hbl hbA w.2.2 (sx_ix (k := 3) 3 rfl (by decide) hi hL) dL_law_305 ?_
  refine lv_aload_n hx hb dL_law_306 rfl (lv_at hl 3 rfl) ?_
  refine lv_iload_n hx hb dL_law_307 rfl (lv_at hl 0 rfl) ?_
  refine lv_iconst (v := 4) hx hb dL_law_308 (by decide) ?_
  refine lv_iadd hx hb dL_law_309 ?_
  refine va_sld hx hb hX hbl hbA w.2.2 (sx_ix (k := 4) 4 rfl (by decide) hi hL) dL_law_310 ?_
  refine lv_aload_n hx hb dL_law_311 rfl (lv_at hl 3 rfl) ?_
  refine lv_iload_n hx hb dL_law_312 rfl (lv_at hl 0 rfl) ?_
  refine lv_iconst (v := 5) hx hb dL_law_313 (by decide) ?_
  refine lv_iadd hx hb dL_law_314 ?_
  refine va_sld hx hb hX hbl hbA w.2.2 (sx_ix (k := 5) 5 rfl (by decide) hi hL) dL_law_315 ?_
  refine r_ci w (r_runV (As := [.int (xs ((nI i) + 1).toNatClampNeg), .int (xs ((nI i) + 2).toNatClampNeg), .int (xs ((nI i) + 3).toNatClampNeg), .int (xs ((nI i) + 4).toNatClampNeg), .int (xs ((nI i) + 5).toNatClampNeg)]) (rest := []) X w (kX6_shoot l E h (a2 0) (a3 0) (a5 0) k hs a1 σ ah hh ny o η j z sp d (xs ((nI i) + 1).toNatClampNeg) (xs ((nI i) + 2).toNatClampNeg) (xs ((nI i) + 3).toNatClampNeg) (xs ((nI i) + 4).toNatClampNeg) (xs ((nI i) + 5).toNatClampNeg) (REL_gs R)) ck_L_40 ⟨Nat.le_of_ble_eq_true rfl, Nat.le_of_ble_eq_true rfl⟩ [0, 1, 2, 3, 4, 5, 6, 7, 8, 9, 28, 29, 30, 31, 32, 33, 34, 35, 36, 37, 38, 39, 40, 41, 42, 43, 44, 45, 46, 47, 48, 49, 50, 51, 52, 53, 54, 55, 56, 57, 58, 59, 60, 61, 62, 63, 64, 65, 70, 71] (hc_117 (E := E)) (by decide +kernel) (k0 := 0) CL6 rfl hl.1 (Nat.le_of_ble_eq_true rfl) rfl dL_law_316 ⟨Nat.le_of_ble_eq_true rfl, Nat.le_of_ble_eq_true rfl⟩) (wHb h (a1 0) (a2 0) (a3 0) (ah 0) (a5 0) k hs ++ (wSt E a1 ((fX6_shoot hs σ ny o η z sp d (xs ((nI i) + 1).toNatClampNeg) (xs ((nI i) + 2).toNatClampNeg) (xs ((nI i) + 3).toNatClampNeg) (xs ((nI i) + 4).toNatClampNeg) (xs ((nI i) + 5).toNatClampNeg)).2.1) ++ (wSt E a2 σn ++ (wSt E a3 σr ++ (wHs E ah hh ((fX6_shoot hs σ ny o η z sp d (xs ((nI i) + 1).toNatClampNeg) (xs ((nI i) + 2).toNatClampNeg) (xs ((nI i) + 3).toNatClampNeg) (xs ((nI i) + 4).toNatClampNeg) (xs ((nI i) + 5).toNatClampNeg)).2.2.1) ((fX6_shoot hs σ ny o η z sp d (xs ((nI i) + 1).toNatClampNeg) (xs ((nI i) + 2).toNatClampNeg) (xs ((nI i) + 3).toNatClampNeg) (xs ((nI i) + 4).toNatClampNeg) (xs ((nI i) + 5).toNatClampNeg)).2.2.2.1) ((fX6_shoot hs σ ny o η z sp d (xs ((nI i) + 1).toNatClampNeg) (xs ((nI i) + 2).toNatClampNeg) (xs ((nI i) + 3).toNatClampNeg) (xs ((nI i) + 4).toNatClampNeg) (xs ((nI i) + 5).toNatClampNeg)).2.2.2.2.1) ++ (wTx E a5 t ++ (wSh k j ((fX6_shoot hs σ ny o η z sp d (xs ((nI i) + 1).toNatClampNeg) (xs ((nI i) + 2).toNatClampNeg) (xs ((nI i) + 3).toNatClampNeg) (xs ((nI i) + 4).toNatClampNeg) (xs ((nI i) + 5).toNatClampNeg)).2.2.2.2.2.1) ((fX6_shoot hs σ ny o η z sp d (xs ((nI i) + 1).toNatClampNeg) (xs ((nI i) + 2).toNatClampNeg) (xs ((nI i) + 3).toNatClampNeg) (xs ((nI i) + 4).toNatClampNeg) (xs ((nI i) + 5).toNatClampNeg)).2.2.2.2.2.2.1) ++ (wWk j ((fX6_shoot hs σ ny o η z sp d (xs ((nI i) + 1).toNatClampNeg) (xs ((nI i) + 2).toNatClampNeg) (xs ((nI i) + 3).toNatClampNeg) (xs ((nI i) + 4).toNatClampNeg) (xs ((nI i) + 5).toNatClampNeg)).2.2.2.2.2.2.2) ++ wMd E am μ sp2)))))))) [0, 1, 2, 3, 4, 5, 6, 7, 8, 9, 28, 29, 30, 31, 32, 33, 34, 35, 36, 37, 38, 39, 40, 41, 42, 43, 44, 45, 46, 47, 48, 49, 50, 51, 52, 53, 54, 55, 56, 57, 58, 59, 60, 61, 62, 63, 64, 65, 70, 71] (hc_117 (E := E)) (by decide +kernel) (ha_117 (E := E)) (hw_117 (E := E)) (fun H locs w => ?_)
  refine lv_aload_n hx hb dL_law_319 rfl (lv_at hl 1 rfl) ?_
  refine lv_aload_n hx hb dL_law_320 rfl (lv_at hl 3 rfl) ?_
  refine lv_iload_n hx hb dL_law_321 rfl (lv_at hl 0 rfl) ?_
  refine lv_iconst (v := 1) hx hb dL_law_322 (by decide) ?_
  refine lv_iadd hx hb dL_law_323 ?_
  refine va_sld hx hb hX hbl hbA w.2.2 (sx_ix (k := 1) 1 rfl (by decide) hi hL) dL_law_324 ?_
  refine lv_aload_n hx hb dL_law_325 rfl (lv_at hl 3 rfl) ?_
  refine lv_iload_n hx hb dL_law_326 rfl (lv_at hl 0 rfl) ?_
  refine lv_iconst (v := 2) hx hb dL_law_327 (by decide) ?_
  refine lv_iadd hx hb dL_law_328 ?_
  refine va_sld hx hb hX hbl hbA w.2.2 (sx_ix (k := 2) 2 rfl (by decide) hi hL) dL_law_329 ?_
  refine lv_aload_n hx hb dL_law_330 rfl (lv_at hl 3 rfl) ?_
  refine lv_iload_n hx hb dL_law_331 rfl (lv_at hl 0 rfl) ?_
  refine lv_iconst (v := 3) hx hb dL_law_332 (by decide) ?_
  refine lv_iadd hx hb dL_law_333 ?_
  refine va_sld hx hb hX hbl hbA w.2.2 (sx_ix (k := 3) 3 rfl (by decide) hi hL) dL_law_334 ?_
  refine lv_aload_n hx hb dL_law_335 rfl (lv_at hl 3 rfl) ?_
  refine lv_iload_n hx hb dL_law_336 rfl (lv_at hl 0 rfl) ?_
  refine lv_iconst (v := 4) hx hb dL_law_337 (by decide) ?_
  refine lv_iadd hx hb dL_law_338 ?_
  refine va_sld hx hb hX hbl hbA w.2.2 (sx_ix (k := 4) 4 rfl (by decide) hi hL) dL_law_339 ?_
  refine lv_aload_n hx hb dL_law_340 rfl (lv_at hl 3 rfl) ?_
  refine lv_iload_n hx hb dL_law_341 rfl (lv_at hl 0 rfl) ?_
  refine lv_iconst (v := 5) hx hb dL_law_342 (by decide) ?_
  refine lv_iadd hx hb dL_law_343 ?_
  refine va_sld hx hb hX hbl hbA w.2.2 (sx_ix (k := 5) 5 rfl (by decide) hi hL) dL_law_344 ?_
  refine r_ci w (r_runV (As := [.int (xs ((nI i) + 1).toNatClampNeg), .int (xs ((nI i) + 2).toNatClampNeg), .int (xs ((nI i) + 3).toNatClampNeg), .int (xs ((nI i) + 4).toNatClampNeg), .int (xs ((nI i) + 5).toNatClampNeg)]) (rest := [.int ((fX6_shoot hs σ ny o η z sp d (xs ((nI i) + 1).toNatClampNeg) (xs ((nI i) + 2).toNatClampNeg) (xs ((nI i) + 3).toNatClampNeg) (xs ((nI i) + 4).toNatClampNeg) (xs ((nI i) + 5).toNatClampNeg)).1)]) X w (kX7_shoot l E am μ sp2 (xs ((nI i) + 1).toNatClampNeg) (xs ((nI i) + 2).toNatClampNeg) (xs ((nI i) + 3).toNatClampNeg) (xs ((nI i) + 4).toNatClampNeg) (xs ((nI i) + 5).toNatClampNeg) (REL_gE R) (REL_gH R) (REL_gA R) (REL_gTab R)) ck_L_44 ⟨Nat.le_of_ble_eq_true rfl, Nat.le_of_ble_eq_true rfl⟩ [72, 73, 74, 75, 76, 77, 78, 79, 80, 81] (hc_115 (E := E)) (by decide +kernel) (k0 := 0) CL7 rfl hl.1 (Nat.le_of_ble_eq_true rfl) rfl dL_law_345 ⟨Nat.le_of_ble_eq_true rfl, Nat.le_of_ble_eq_true rfl⟩) (wHb h (a1 0) (a2 0) (a3 0) (ah 0) (a5 0) k hs ++ (wSt E a1 ((fX6_shoot hs σ ny o η z sp d (xs ((nI i) + 1).toNatClampNeg) (xs ((nI i) + 2).toNatClampNeg) (xs ((nI i) + 3).toNatClampNeg) (xs ((nI i) + 4).toNatClampNeg) (xs ((nI i) + 5).toNatClampNeg)).2.1) ++ (wSt E a2 σn ++ (wSt E a3 σr ++ (wHs E ah hh ((fX6_shoot hs σ ny o η z sp d (xs ((nI i) + 1).toNatClampNeg) (xs ((nI i) + 2).toNatClampNeg) (xs ((nI i) + 3).toNatClampNeg) (xs ((nI i) + 4).toNatClampNeg) (xs ((nI i) + 5).toNatClampNeg)).2.2.1) ((fX6_shoot hs σ ny o η z sp d (xs ((nI i) + 1).toNatClampNeg) (xs ((nI i) + 2).toNatClampNeg) (xs ((nI i) + 3).toNatClampNeg) (xs ((nI i) + 4).toNatClampNeg) (xs ((nI i) + 5).toNatClampNeg)).2.2.2.1) ((fX6_shoot hs σ ny o η z sp d (xs ((nI i) + 1).toNatClampNeg) (xs ((nI i) + 2).toNatClampNeg) (xs ((nI i) + 3).toNatClampNeg) (xs ((nI i) + 4).toNatClampNeg) (xs ((nI i) + 5).toNatClampNeg)).2.2.2.2.1) ++ (wTx E a5 t ++ (wSh k j ((fX6_shoot hs σ ny o η z sp d (xs ((nI i) + 1).toNatClampNeg) (xs ((nI i) + 2).toNatClampNeg) (xs ((nI i) + 3).toNatClampNeg) (xs ((nI i) + 4).toNatClampNeg) (xs ((nI i) + 5).toNatClampNeg)).2.2.2.2.2.1) ((fX6_shoot hs σ ny o η z sp d (xs ((nI i) + 1).toNatClampNeg) (xs ((nI i) + 2).toNatClampNeg) (xs ((nI i) + 3).toNatClampNeg) (xs ((nI i) + 4).toNatClampNeg) (xs ((nI i) + 5).toNatClampNeg)).2.2.2.2.2.2.1) ++ (wWk j ((fX6_shoot hs σ ny o η z sp d (xs ((nI i) + 1).toNatClampNeg) (xs ((nI i) + 2).toNatClampNeg) (xs ((nI i) + 3).toNatClampNeg) (xs ((nI i) + 4).toNatClampNeg) (xs ((nI i) + 5).toNatClampNeg)).2.2.2.2.2.2.2) ++ wMd E am ((fX7_shoot μ sp2 (xs ((nI i) + 1).toNatClampNeg) (xs ((nI i) + 2).toNatClampNeg) (xs ((nI i) + 3).toNatClampNeg) (xs ((nI i) + 4).toNatClampNeg) (xs ((nI i) + 5).toNatClampNeg)).2.1) ((fX7_shoot μ sp2 (xs ((nI i) + 1).toNatClampNeg) (xs ((nI i) + 2).toNatClampNeg) (xs ((nI i) + 3).toNatClampNeg) (xs ((nI i) + 4).toNatClampNeg) (xs ((nI i) + 5).toNatClampNeg)).2.2))))))))) [72, 73, 74, 75, 76, 77, 78, 79, 80, 81] (hc_115 (E := E)) (by decide +kernel) (ha_115 (E := E)) (hw_115 (E := E)) (fun H locs w => ?_)
  refine lv_icmp_eq (tgt := 833) hx hb dL_law_348 (by decide) (fun _ => ?_) (fun h => absurd (s_shoot R).1 h)
  exact next _ _ _ _ _ _ _ _ _ _ _ _ _ _ _ _ (s_shoot R).2 w (lv_sub hl [0, 1, 2, 3] rfl)
theorem dL_law_353 : decode code 353 = .ok (.aload_n 1, 1) := by decide +kernel
theorem dL_law_354 : decode code 354 = .ok (.aload_n 0, 1) := by decide +kernel
theorem dL_law_355 : decode code 355 = .ok (.iload_n 3, 1) := by decide +kernel
theorem dL_law_356 : decode code 356 = .ok (.iconst 1, 1) := by decide +kernel
theorem dL_law_357 : decode code 357 = .ok (.iadd, 1) := by decide +kernel
theorem dL_law_358 : decode code 358 = .ok (.iaload, 1) := by decide +kernel
theorem dL_law_359 : decode code 359 = .ok (.invokevirtual 45, 3) := by decide +kernel
theorem dL_law_362 : decode code 362 = .ok (.aload_n 2, 1) := by decide +kernel
theorem dL_law_363 : decode code 363 = .ok (.aload_n 0, 1) := by decide +kernel
theorem dL_law_364 : decode code 364 = .ok (.iload_n 3, 1) := by decide +kernel
theorem dL_law_365 : decode code 365 = .ok (.iconst 1, 1) := by decide +kernel
theorem dL_law_366 : decode code 366 = .ok (.iadd, 1) := by decide +kernel
theorem dL_law_367 : decode code 367 = .ok (.iaload, 1) := by decide +kernel
theorem dL_law_368 : decode code 368 = .ok (.invokevirtual 48, 3) := by decide +kernel
theorem dL_law_371 : decode code 371 = .ok (.if_icmp .eq 462, 3) := by decide +kernel
theorem ck_L_45 : CkV RL 45 RX6 yX6_pass cX6_pass 3 (some .int) 1 := ⟨wm_L_45, wim_yX6_pass, wse_yX6_pass, wi_X6, wc_yX6_pass, by decide +kernel⟩
theorem ck_L_48 : CkV RL 48 RX7 yX7_pass cX7_pass 3 (some .int) 1 := ⟨wm_L_48, wim_yX7_pass, wse_yX7_pass, wi_X7, wc_yX7_pass, by decide +kernel⟩
set_option maxHeartbeats 4000000 in
set_option maxRecDepth 100000 in
theorem law_pass (X : Cx p m meth c code 8 s #[Value.ref b] RL E (lwA s)) (hX : va_X b L xs s s.heap) (hbl : b < s.heap.size) (hL : L ≤ 3072) (hi : i + 6 ≤ L) (R : REL hs σ σn ny o η t μ) (w : Wd E (lwA s) s (wHb h (a1 0) (a2 0) (a3 0) (ah 0) (a5 0) k hs ++ (wSt E a1 σ ++ (wSt E a2 σn ++ (wSt E a3 σr ++ (wHs E ah hh ny o η ++ (wTx E a5 t ++ (wSh k j z sp ++ (wWk j d ++ wMd E am μ sp2)))))))) H locs) (hl : lv_has ls 8 [(3, .int (nI i)), (2, .ref (am 0)), (1, .ref h), (0, .ref b)]) (next : NX p l e s m b below meth c E h k j a1 a2 a3 ah a5 am hh i) : W p l e room_1 s m #[Value.ref b] below meth c H locs 82 1976 (lw_Z below #[Value.ref b] s) (F0 m 353 ls []) := by
  have hx := X.1
  have hb := X.2.1
  have hbA : ¬ lwA s b := lwA_out s b hbl
  refine lv_aload_n hx hb dL_law_353 rfl (lv_at hl 2 rfl) ?_
  refine lv_aload_n hx hb dL_law_354 rfl (lv_at hl 3 rfl) ?_
  refine lv_iload_n hx hb dL_law_355 rfl (lv_at hl 0 rfl) ?_
  refine lv_iconst (v := 1) hx hb dL_law_356 (by decide) ?_
  refine lv_iadd hx hb dL_law_357 ?_
  refine va_sld hx hb hX hbl hbA w.2.2 (sx_ix (k := 1) 1 rfl (by decide) hi hL) dL_law_358 ?_
  refine r_ci w (r_runV (As := [.int (xs ((nI i) + 1).toNatClampNeg)]) (rest := []) X w (kX6_pass l E h (a2 0) (a3 0) (a5 0) k hs a1 σ ah hh ny o η (xs ((nI i) + 1).toNatClampNeg) ) ck_L_45 ⟨Nat.le_of_ble_eq_true rfl, Nat.le_of_ble_eq_true rfl⟩ [0, 1, 2, 3, 4, 5, 6, 7, 8, 9, 28, 29, 30, 31, 32, 33, 34, 35, 36, 37, 38, 39, 40, 41, 42, 43, 44, 45, 46, 47, 48, 49, 50, 51, 52, 53, 54, 55, 56, 57, 58, 59, 60, 61, 62, 63, 64, 65] (hc_114 (E := E)) (by decide +kernel) (k0 := 0) CL6 rfl hl.1 (Nat.le_of_ble_eq_true rfl) rfl dL_law_359 ⟨Nat.le_of_ble_eq_true rfl, Nat.le_of_ble_eq_true rfl⟩) (wHb h (a1 0) (a2 0) (a3 0) (ah 0) (a5 0) k hs ++ (wSt E a1 ((fX6_pass hs σ ny o η (xs ((nI i) + 1).toNatClampNeg)).2.1) ++ (wSt E a2 σn ++ (wSt E a3 σr ++ (wHs E ah hh ((fX6_pass hs σ ny o η (xs ((nI i) + 1).toNatClampNeg)).2.2.1) ((fX6_pass hs σ ny o η (xs ((nI i) + 1).toNatClampNeg)).2.2.2.1) ((fX6_pass hs σ ny o η (xs ((nI i) + 1).toNatClampNeg)).2.2.2.2) ++ (wTx E a5 t ++ (wSh k j z sp ++ (wWk j d ++ wMd E am μ sp2)))))))) [0, 1, 2, 3, 4, 5, 6, 7, 8, 9, 28, 29, 30, 31, 32, 33, 34, 35, 36, 37, 38, 39, 40, 41, 42, 43, 44, 45, 46, 47, 48, 49, 50, 51, 52, 53, 54, 55, 56, 57, 58, 59, 60, 61, 62, 63, 64, 65] (hc_114 (E := E)) (by decide +kernel) (ha_114 (E := E)) (hw_114 (E := E)) (fun H locs w => ?_)
  refine lv_aload_n hx hb dL_law_362 rfl (lv_at hl 1 rfl) ?_
  refine lv_aload_n hx hb dL_law_363 rfl (lv_at hl 3 rfl) ?_
  refine lv_iload_n hx hb dL_law_364 rfl (lv_at hl 0 rfl) ?_
  refine lv_iconst (v := 1) hx hb dL_law_365 (by decide) ?_
  refine lv_iadd hx hb dL_law_366 ?_
  refine va_sld hx hb hX hbl hbA w.2.2 (sx_ix (k := 1) 1 rfl (by decide) hi hL) dL_law_367 ?_
  refine r_ci w (r_runV (As := [.int (xs ((nI i) + 1).toNatClampNeg)]) (rest := [.int ((fX6_pass hs σ ny o η (xs ((nI i) + 1).toNatClampNeg)).1)]) X w (kX7_pass l E am μ sp2 (xs ((nI i) + 1).toNatClampNeg) (REL_gH R)) ck_L_48 ⟨Nat.le_of_ble_eq_true rfl, Nat.le_of_ble_eq_true rfl⟩ [72, 73, 74, 75, 76, 77, 78, 79, 80, 81] (hc_115 (E := E)) (by decide +kernel) (k0 := 0) CL7 rfl hl.1 (Nat.le_of_ble_eq_true rfl) rfl dL_law_368 ⟨Nat.le_of_ble_eq_true rfl, Nat.le_of_ble_eq_true rfl⟩) (wHb h (a1 0) (a2 0) (a3 0) (ah 0) (a5 0) k hs ++ (wSt E a1 ((fX6_pass hs σ ny o η (xs ((nI i) + 1).toNatClampNeg)).2.1) ++ (wSt E a2 σn ++ (wSt E a3 σr ++ (wHs E ah hh ((fX6_pass hs σ ny o η (xs ((nI i) + 1).toNatClampNeg)).2.2.1) ((fX6_pass hs σ ny o η (xs ((nI i) + 1).toNatClampNeg)).2.2.2.1) ((fX6_pass hs σ ny o η (xs ((nI i) + 1).toNatClampNeg)).2.2.2.2) ++ (wTx E a5 t ++ (wSh k j z sp ++ (wWk j d ++ wMd E am ((fX7_pass μ sp2 (xs ((nI i) + 1).toNatClampNeg)).2) sp2)))))))) [72, 73, 74, 75, 76, 77, 78, 79, 80, 81] (hc_115 (E := E)) (by decide +kernel) (ha_115 (E := E)) (hw_115 (E := E)) (fun H locs w => ?_)
  refine lv_icmp_eq (tgt := 833) hx hb dL_law_371 (by decide) (fun _ => ?_) (fun h => absurd (s_pass R).1 h)
  exact next _ _ _ _ _ _ _ _ _ _ _ _ _ _ _ _ (s_pass R).2 w (lv_sub hl [0, 1, 2, 3] rfl)
theorem dL_law_376 : decode code 376 = .ok (.aload_n 1, 1) := by decide +kernel
theorem dL_law_377 : decode code 377 = .ok (.aload_n 0, 1) := by decide +kernel
theorem dL_law_378 : decode code 378 = .ok (.iload_n 3, 1) := by decide +kernel
theorem dL_law_379 : decode code 379 = .ok (.iconst 1, 1) := by decide +kernel
theorem dL_law_380 : decode code 380 = .ok (.iadd, 1) := by decide +kernel
theorem dL_law_381 : decode code 381 = .ok (.iaload, 1) := by decide +kernel
theorem dL_law_382 : decode code 382 = .ok (.i2c, 1) := by decide +kernel
theorem dL_law_383 : decode code 383 = .ok (.invokevirtual 49, 3) := by decide +kernel
theorem dL_law_386 : decode code 386 = .ok (.aload_n 2, 1) := by decide +kernel
theorem dL_law_387 : decode code 387 = .ok (.aload_n 0, 1) := by decide +kernel
theorem dL_law_388 : decode code 388 = .ok (.iload_n 3, 1) := by decide +kernel
theorem dL_law_389 : decode code 389 = .ok (.iconst 1, 1) := by decide +kernel
theorem dL_law_390 : decode code 390 = .ok (.iadd, 1) := by decide +kernel
theorem dL_law_391 : decode code 391 = .ok (.iaload, 1) := by decide +kernel
theorem dL_law_392 : decode code 392 = .ok (.i2c, 1) := by decide +kernel
theorem dL_law_393 : decode code 393 = .ok (.invokevirtual 53, 3) := by decide +kernel
theorem dL_law_396 : decode code 396 = .ok (.if_icmp .eq 437, 3) := by decide +kernel
theorem ck_L_49 : CkV RL 49 RX6 yX6_type cX6_type 2 (some .int) 1 := ⟨wm_L_49, wim_yX6_type, wse_yX6_type, wi_X6, wc_yX6_type, by decide +kernel⟩
theorem ck_L_53 : CkV RL 53 RX7 yX7_type cX7_type 2 (some .int) 1 := ⟨wm_L_53, wim_yX7_type, wse_yX7_type, wi_X7, wc_yX7_type, by decide +kernel⟩
theorem hc_118 {E : Ev} {a0 p0_0 p0_1 p0_2 p0_3 p0_4 p0_5 : Nat} {n0 : Int32} {a1 : Nat → Nat} {σ1 : N2} {a2 : Nat → Nat} {σ2 : N2} {a3 : Nat → Nat} {σ3 : N2} {a4 : Nat → Nat} {h4 : Nat → Nat → Nat} {n4 : Int32} {η4 : Nat → N2} {o4 : Nat} {a5 : Nat → Nat} {σ5 : N2} {a6 j6 : Nat} {σ6 : N1} {v6 : UInt32} {a7 : Nat} {σ7 : N1} {a8 : Nat → Nat} {σ8 : N2} {v8 : UInt32} : ([0, 66, 67, 68, 69] : List Nat).map (fun i => (wHb a0 p0_0 p0_1 p0_2 p0_3 p0_4 p0_5 n0 ++ (wSt E a1 σ1 ++ (wSt E a2 σ2 ++ (wSt E a3 σ3 ++ (wHs E a4 h4 n4 o4 η4 ++ (wTx E a5 σ5 ++ (wSh a6 j6 σ6 v6 ++ (wWk a7 σ7 ++ wMd E a8 σ8 v8))))))))[i]?) = (wHb a0 p0_0 p0_1 p0_2 p0_3 p0_4 p0_5 n0 ++ wTx E a5 σ5).map some := get_app (is1 := rg 0 1) (is2 := rg 66 4) (by rw [show wHb a0 p0_0 p0_1 p0_2 p0_3 p0_4 p0_5 n0 ++ (wSt E a1 σ1 ++ (wSt E a2 σ2 ++ (wSt E a3 σ3 ++ (wHs E a4 h4 n4 o4 η4 ++ (wTx E a5 σ5 ++ (wSh a6 j6 σ6 v6 ++ (wWk a7 σ7 ++ (wMd E a8 σ8 v8)))))))) = ([] : va_W) ++ (wHb a0 p0_0 p0_1 p0_2 p0_3 p0_4 p0_5 n0 ++ (wSt E a1 σ1 ++ (wSt E a2 σ2 ++ (wSt E a3 σ3 ++ (wHs E a4 h4 n4 o4 η4 ++ (wTx E a5 σ5 ++ (wSh a6 j6 σ6 v6 ++ (wWk a7 σ7 ++ (wMd E a8 σ8 v8))))))))) by simp only [List.append_assoc, List.nil_append, List.append_nil]]; exact get1 (s := 0) (n := 1) rfl rfl) ((by rw [show wHb a0 p0_0 p0_1 p0_2 p0_3 p0_4 p0_5 n0 ++ (wSt E a1 σ1 ++ (wSt E a2 σ2 ++ (wSt E a3 σ3 ++ (wHs E a4 h4 n4 o4 η4 ++ (wTx E a5 σ5 ++ (wSh a6 j6 σ6 v6 ++ (wWk a7 σ7 ++ (wMd E a8 σ8 v8)))))))) = (wHb a0 p0_0 p0_1 p0_2 p0_3 p0_4 p0_5 n0 ++ (wSt E a1 σ1 ++ (wSt E a2 σ2 ++ (wSt E a3 σ3 ++ (wHs E a4 h4 n4 o4 η4))))) ++ (wTx E a5 σ5 ++ (wSh a6 j6 σ6 v6 ++ (wWk a7 σ7 ++ (wMd E a8 σ8 v8)))) by simp only [List.append_assoc, List.nil_append, List.append_nil]]; exact get1 (s := 66) (n := 4) rfl rfl))
theorem ha_118 {E : Ev} {a0 p0_0 p0_1 p0_2 p0_3 p0_4 p0_5 : Nat} {n0 : Int32} {a5 : Nat → Nat} {σ5 : N2} {τ0_0 : Int32} {τ1_0 : N2} : (wHb a0 p0_0 p0_1 p0_2 p0_3 p0_4 p0_5 τ0_0 ++ wTx E a5 τ1_0).map Prod.fst = (wHb a0 p0_0 p0_1 p0_2 p0_3 p0_4 p0_5 n0 ++ wTx E a5 σ5).map Prod.fst := fst_app fst_Hb (fst_Tx)
theorem hw_118 {E : Ev} {a0 p0_0 p0_1 p0_2 p0_3 p0_4 p0_5 : Nat} {n0 : Int32} {a1 : Nat → Nat} {σ1 : N2} {a2 : Nat → Nat} {σ2 : N2} {a3 : Nat → Nat} {σ3 : N2} {a4 : Nat → Nat} {h4 : Nat → Nat → Nat} {n4 : Int32} {η4 : Nat → N2} {o4 : Nat} {a5 : Nat → Nat} {σ5 : N2} {a6 j6 : Nat} {σ6 : N1} {v6 : UInt32} {a7 : Nat} {σ7 : N1} {a8 : Nat → Nat} {σ8 : N2} {v8 : UInt32} {τ0_0 : Int32} {τ1_0 : N2} : wput (wHb a0 p0_0 p0_1 p0_2 p0_3 p0_4 p0_5 n0 ++ (wSt E a1 σ1 ++ (wSt E a2 σ2 ++ (wSt E a3 σ3 ++ (wHs E a4 h4 n4 o4 η4 ++ (wTx E a5 σ5 ++ (wSh a6 j6 σ6 v6 ++ (wWk a7 σ7 ++ wMd E a8 σ8 v8)))))))) [0, 66, 67, 68, 69] (wHb a0 p0_0 p0_1 p0_2 p0_3 p0_4 p0_5 τ0_0 ++ wTx E a5 τ1_0) = wHb a0 p0_0 p0_1 p0_2 p0_3 p0_4 p0_5 τ0_0 ++ (wSt E a1 σ1 ++ (wSt E a2 σ2 ++ (wSt E a3 σ3 ++ (wHs E a4 h4 n4 o4 η4 ++ (wTx E a5 τ1_0 ++ (wSh a6 j6 σ6 v6 ++ (wWk a7 σ7 ++ wMd E a8 σ8 v8))))))) := by
  show wput (wHb a0 p0_0 p0_1 p0_2 p0_3 p0_4 p0_5 n0 ++ (wSt E a1 σ1 ++ (wSt E a2 σ2 ++ (wSt E a3 σ3 ++ (wHs E a4 h4 n4 o4 η4 ++ (wTx E a5 σ5 ++ (wSh a6 j6 σ6 v6 ++ (wWk a7 σ7 ++ (wMd E a8 σ8 v8))))))))) (rg 0 1 ++ (rg 66 4)) (wHb a0 p0_0 p0_1 p0_2 p0_3 p0_4 p0_5 τ0_0 ++ wTx E a5 τ1_0) = _
  rw [wput_app rfl]
  rw [show wHb a0 p0_0 p0_1 p0_2 p0_3 p0_4 p0_5 n0 ++ (wSt E a1 σ1 ++ (wSt E a2 σ2 ++ (wSt E a3 σ3 ++ (wHs E a4 h4 n4 o4 η4 ++ (wTx E a5 σ5 ++ (wSh a6 j6 σ6 v6 ++ (wWk a7 σ7 ++ (wMd E a8 σ8 v8)))))))) = ([] : va_W) ++ (wHb a0 p0_0 p0_1 p0_2 p0_3 p0_4 p0_5 n0 ++ (wSt E a1 σ1 ++ (wSt E a2 σ2 ++ (wSt E a3 σ3 ++ (wHs E a4 h4 n4 o4 η4 ++ (wTx E a5 σ5 ++ (wSh a6 j6 σ6 v6 ++ (wWk a7 σ7 ++ (wMd E a8 σ8 v8))))))))) by simp only [List.append_assoc, List.nil_append, List.append_nil], put1 (s := 0) (n := 1) rfl rfl rfl]
  rw [show ([] : va_W) ++ (wHb a0 p0_0 p0_1 p0_2 p0_3 p0_4 p0_5 τ0_0 ++ (wSt E a1 σ1 ++ (wSt E a2 σ2 ++ (wSt E a3 σ3 ++ (wHs E a4 h4 n4 o4 η4 ++ (wTx E a5 σ5 ++ (wSh a6 j6 σ6 v6 ++ (wWk a7 σ7 ++ (wMd E a8 σ8 v8))))))))) = (wHb a0 p0_0 p0_1 p0_2 p0_3 p0_4 p0_5 τ0_0 ++ (wSt E a1 σ1 ++ (wSt E a2 σ2 ++ (wSt E a3 σ3 ++ (wHs E a4 h4 n4 o4 η4))))) ++ (wTx E a5 σ5 ++ (wSh a6 j6 σ6 v6 ++ (wWk a7 σ7 ++ (wMd E a8 σ8 v8)))) by simp only [List.append_assoc, List.nil_append, List.append_nil], put1 (s := 66) (n := 4) rfl rfl rfl]
  try simp only [List.append_assoc, List.nil_append, List.append_nil]
set_option maxHeartbeats 4000000 in
set_option maxRecDepth 100000 in
theorem law_type (X : Cx p m meth c code 8 s #[Value.ref b] RL E (lwA s)) (hX : va_X b L xs s s.heap) (hbl : b < s.heap.size) (hL : L ≤ 3072) (hi : i + 6 ≤ L) (R : REL hs σ σn ny o η t μ) (w : Wd E (lwA s) s (wHb h (a1 0) (a2 0) (a3 0) (ah 0) (a5 0) k hs ++ (wSt E a1 σ ++ (wSt E a2 σn ++ (wSt E a3 σr ++ (wHs E ah hh ny o η ++ (wTx E a5 t ++ (wSh k j z sp ++ (wWk j d ++ wMd E am μ sp2)))))))) H locs) (hl : lv_has ls 8 [(3, .int (nI i)), (2, .ref (am 0)), (1, .ref h), (0, .ref b)]) (next : NX p l e s m b below meth c E h k j a1 a2 a3 ah a5 am hh i) : W p l e room_1 s m #[Value.ref b] below meth c H locs 82 1976 (lw_Z below #[Value.ref b] s) (F0 m 376 ls []) := by
  have hx := X.1
  have hb := X.2.1
  have hbA : ¬ lwA s b := lwA_out s b hbl
  refine lv_aload_n hx hb dL_law_376 rfl (lv_at hl 2 rfl) ?_
  refine lv_aload_n hx hb dL_law_377 rfl (lv_at hl 3 rfl) ?_
  refine lv_iload_n hx hb dL_law_378 rfl (lv_at hl 0 rfl) ?_
  refine lv_iconst (v := 1) hx hb dL_law_379 (by decide) ?_
  refine lv_iadd hx hb dL_law_380 ?_
  refine va_sld hx hb hX hbl hbA w.2.2 (sx_ix (k := 1) 1 rfl (by decide) hi hL) dL_law_381 ?_
  refine lv_i2c hx hb dL_law_382 rfl ?_
  refine r_ci w (r_runV (As := [.int (((xs ((nI i) + 1).toNatClampNeg).toUInt32 % 65536).toInt32)]) (rest := []) X w (kX6_type l E h (a1 0) (a2 0) (a3 0) (ah 0) k hs a5 t (((xs ((nI i) + 1).toNatClampNeg).toUInt32 % 65536).toInt32) (nar_c _)) ck_L_49 ⟨Nat.le_of_ble_eq_true rfl, Nat.le_of_ble_eq_true rfl⟩ [0, 66, 67, 68, 69] (hc_118 (E := E)) (by decide +kernel) (k0 := 0) CL6 rfl hl.1 (Nat.le_of_ble_eq_true rfl) rfl dL_law_383 ⟨Nat.le_of_ble_eq_true rfl, Nat.le_of_ble_eq_true rfl⟩) (wHb h (a1 0) (a2 0) (a3 0) (ah 0) (a5 0) k hs ++ (wSt E a1 σ ++ (wSt E a2 σn ++ (wSt E a3 σr ++ (wHs E ah hh ny o η ++ (wTx E a5 ((fX6_type hs t (((xs ((nI i) + 1).toNatClampNeg).toUInt32 % 65536).toInt32)).2) ++ (wSh k j z sp ++ (wWk j d ++ wMd E am μ sp2)))))))) [0, 66, 67, 68, 69] (hc_118 (E := E)) (by decide +kernel) (ha_118 (E := E)) (hw_118 (E := E)) (fun H locs w => ?_)
  refine lv_aload_n hx hb dL_law_386 rfl (lv_at hl 1 rfl) ?_
  refine lv_aload_n hx hb dL_law_387 rfl (lv_at hl 3 rfl) ?_
  refine lv_iload_n hx hb dL_law_388 rfl (lv_at hl 0 rfl) ?_
  refine lv_iconst (v := 1) hx hb dL_law_389 (by decide) ?_
  refine lv_iadd hx hb dL_law_390 ?_
  refine va_sld hx hb hX hbl hbA w.2.2 (sx_ix (k := 1) 1 rfl (by decide) hi hL) dL_law_391 ?_
  refine lv_i2c hx hb dL_law_392 rfl ?_
  refine r_ci w (r_runV (As := [.int (((xs ((nI i) + 1).toNatClampNeg).toUInt32 % 65536).toInt32)]) (rest := [.int ((fX6_type hs t (((xs ((nI i) + 1).toNatClampNeg).toUInt32 % 65536).toInt32)).1)]) X w (kX7_type l E am μ sp2 (((xs ((nI i) + 1).toNatClampNeg).toUInt32 % 65536).toInt32) (REL_gT R)) ck_L_53 ⟨Nat.le_of_ble_eq_true rfl, Nat.le_of_ble_eq_true rfl⟩ [72, 73, 74, 75, 76, 77, 78, 79, 80, 81] (hc_115 (E := E)) (by decide +kernel) (k0 := 0) CL7 rfl hl.1 (Nat.le_of_ble_eq_true rfl) rfl dL_law_393 ⟨Nat.le_of_ble_eq_true rfl, Nat.le_of_ble_eq_true rfl⟩) (wHb h (a1 0) (a2 0) (a3 0) (ah 0) (a5 0) k hs ++ (wSt E a1 σ ++ (wSt E a2 σn ++ (wSt E a3 σr ++ (wHs E ah hh ny o η ++ (wTx E a5 ((fX6_type hs t (((xs ((nI i) + 1).toNatClampNeg).toUInt32 % 65536).toInt32)).2) ++ (wSh k j z sp ++ (wWk j d ++ wMd E am ((fX7_type μ sp2 (((xs ((nI i) + 1).toNatClampNeg).toUInt32 % 65536).toInt32)).2) sp2)))))))) [72, 73, 74, 75, 76, 77, 78, 79, 80, 81] (hc_115 (E := E)) (by decide +kernel) (ha_115 (E := E)) (hw_115 (E := E)) (fun H locs w => ?_)
  refine lv_icmp_eq (tgt := 833) hx hb dL_law_396 (by decide) (fun _ => ?_) (fun h => absurd (s_type R).1 h)
  exact next _ _ _ _ _ _ _ _ _ _ _ _ _ _ _ _ (s_type R).2 w (lv_sub hl [0, 1, 2, 3] rfl)
theorem dL_law_401 : decode code 401 = .ok (.aload_n 1, 1) := by decide +kernel
theorem dL_law_402 : decode code 402 = .ok (.invokevirtual 54, 3) := by decide +kernel
theorem dL_law_405 : decode code 405 = .ok (.aload_n 2, 1) := by decide +kernel
theorem dL_law_406 : decode code 406 = .ok (.invokevirtual 57, 3) := by decide +kernel
theorem dL_law_409 : decode code 409 = .ok (.if_icmp .eq 424, 3) := by decide +kernel
theorem ck_L_54 : CkV RL 54 RX6 yX6_clearText cX6_clearText 2 (some .int) 0 := ⟨wm_L_54, wim_yX6_clearText, wse_yX6_clearText, wi_X6, wc_yX6_clearText, by decide +kernel⟩
theorem ck_L_57 : CkV RL 57 RX7 yX7_clearText cX7_clearText 2 (some .int) 0 := ⟨wm_L_57, wim_yX7_clearText, wse_yX7_clearText, wi_X7, wc_yX7_clearText, by decide +kernel⟩
set_option maxHeartbeats 4000000 in
set_option maxRecDepth 100000 in
theorem law_clearText (X : Cx p m meth c code 8 s #[Value.ref b] RL E (lwA s)) (hX : va_X b L xs s s.heap) (hbl : b < s.heap.size) (hL : L ≤ 3072) (hi : i + 6 ≤ L) (R : REL hs σ σn ny o η t μ) (w : Wd E (lwA s) s (wHb h (a1 0) (a2 0) (a3 0) (ah 0) (a5 0) k hs ++ (wSt E a1 σ ++ (wSt E a2 σn ++ (wSt E a3 σr ++ (wHs E ah hh ny o η ++ (wTx E a5 t ++ (wSh k j z sp ++ (wWk j d ++ wMd E am μ sp2)))))))) H locs) (hl : lv_has ls 8 [(3, .int (nI i)), (2, .ref (am 0)), (1, .ref h), (0, .ref b)]) (next : NX p l e s m b below meth c E h k j a1 a2 a3 ah a5 am hh i) : W p l e room_1 s m #[Value.ref b] below meth c H locs 82 1976 (lw_Z below #[Value.ref b] s) (F0 m 401 ls []) := by
  have hx := X.1
  have hb := X.2.1
  have hbA : ¬ lwA s b := lwA_out s b hbl
  refine lv_aload_n hx hb dL_law_401 rfl (lv_at hl 2 rfl) ?_
  refine r_ci w (r_runV (As := []) (rest := []) X w (kX6_clearText l E h (a1 0) (a2 0) (a3 0) (ah 0) k hs a5 t ) ck_L_54 ⟨Nat.le_of_ble_eq_true rfl, Nat.le_of_ble_eq_true rfl⟩ [0, 66, 67, 68, 69] (hc_118 (E := E)) (by decide +kernel) (k0 := 0) CL6 rfl hl.1 (Nat.le_of_ble_eq_true rfl) rfl dL_law_402 ⟨Nat.le_of_ble_eq_true rfl, Nat.le_of_ble_eq_true rfl⟩) (wHb h (a1 0) (a2 0) (a3 0) (ah 0) (a5 0) k hs ++ (wSt E a1 σ ++ (wSt E a2 σn ++ (wSt E a3 σr ++ (wHs E ah hh ny o η ++ (wTx E a5 ((fX6_clearText hs t).2) ++ (wSh k j z sp ++ (wWk j d ++ wMd E am μ sp2)))))))) [0, 66, 67, 68, 69] (hc_118 (E := E)) (by decide +kernel) (ha_118 (E := E)) (hw_118 (E := E)) (fun H locs w => ?_)
  refine lv_aload_n hx hb dL_law_405 rfl (lv_at hl 1 rfl) ?_
  refine r_ci w (r_runV (As := []) (rest := [.int ((fX6_clearText hs t).1)]) X w (kX7_clearText l E am μ sp2 ) ck_L_57 ⟨Nat.le_of_ble_eq_true rfl, Nat.le_of_ble_eq_true rfl⟩ [72, 73, 74, 75, 76, 77, 78, 79, 80, 81] (hc_115 (E := E)) (by decide +kernel) (k0 := 0) CL7 rfl hl.1 (Nat.le_of_ble_eq_true rfl) rfl dL_law_406 ⟨Nat.le_of_ble_eq_true rfl, Nat.le_of_ble_eq_true rfl⟩) (wHb h (a1 0) (a2 0) (a3 0) (ah 0) (a5 0) k hs ++ (wSt E a1 σ ++ (wSt E a2 σn ++ (wSt E a3 σr ++ (wHs E ah hh ny o η ++ (wTx E a5 ((fX6_clearText hs t).2) ++ (wSh k j z sp ++ (wWk j d ++ wMd E am ((fX7_clearText μ sp2).2) sp2)))))))) [72, 73, 74, 75, 76, 77, 78, 79, 80, 81] (hc_115 (E := E)) (by decide +kernel) (ha_115 (E := E)) (hw_115 (E := E)) (fun H locs w => ?_)
  refine lv_icmp_eq (tgt := 833) hx hb dL_law_409 (by decide) (fun _ => ?_) (fun h => absurd (s_clearText R).1 h)
  exact next _ _ _ _ _ _ _ _ _ _ _ _ _ _ _ _ (s_clearText R).2 w (lv_sub hl [0, 1, 2, 3] rfl)
theorem dL_law_414 : decode code 414 = .ok (.aload_n 1, 1) := by decide +kernel
theorem dL_law_415 : decode code 415 = .ok (.invokevirtual 58, 3) := by decide +kernel
theorem dL_law_418 : decode code 418 = .ok (.aload_n 2, 1) := by decide +kernel
theorem dL_law_419 : decode code 419 = .ok (.invokevirtual 61, 3) := by decide +kernel
theorem dL_law_422 : decode code 422 = .ok (.if_icmp .eq 411, 3) := by decide +kernel
theorem ck_L_58 : CkV RL 58 RX6 yX6_undo cX6_undo 1 (some .int) 0 := ⟨wm_L_58, wim_yX6_undo, wse_yX6_undo, wi_X6, wc_yX6_undo, by decide +kernel⟩
theorem ck_L_61 : CkV RL 61 RX7 yX7_undo cX7_undo 2 (some .int) 0 := ⟨wm_L_61, wim_yX7_undo, wse_yX7_undo, wi_X7, wc_yX7_undo, by decide +kernel⟩
set_option maxHeartbeats 4000000 in
set_option maxRecDepth 100000 in
theorem law_undo (X : Cx p m meth c code 8 s #[Value.ref b] RL E (lwA s)) (hX : va_X b L xs s s.heap) (hbl : b < s.heap.size) (hL : L ≤ 3072) (hi : i + 6 ≤ L) (R : REL hs σ σn ny o η t μ) (w : Wd E (lwA s) s (wHb h (a1 0) (a2 0) (a3 0) (ah 0) (a5 0) k hs ++ (wSt E a1 σ ++ (wSt E a2 σn ++ (wSt E a3 σr ++ (wHs E ah hh ny o η ++ (wTx E a5 t ++ (wSh k j z sp ++ (wWk j d ++ wMd E am μ sp2)))))))) H locs) (hl : lv_has ls 8 [(3, .int (nI i)), (2, .ref (am 0)), (1, .ref h), (0, .ref b)]) (next : NX p l e s m b below meth c E h k j a1 a2 a3 ah a5 am hh i) : W p l e room_1 s m #[Value.ref b] below meth c H locs 82 1976 (lw_Z below #[Value.ref b] s) (F0 m 414 ls []) := by
  have hx := X.1
  have hb := X.2.1
  have hbA : ¬ lwA s b := lwA_out s b hbl
  refine lv_aload_n hx hb dL_law_414 rfl (lv_at hl 2 rfl) ?_
  refine r_ci w (r_runV (As := []) (rest := []) X w (kX6_undo l E h (a2 0) (a3 0) (a5 0) k hs a1 σ ah hh ny o η ) ck_L_58 ⟨Nat.le_of_ble_eq_true rfl, Nat.le_of_ble_eq_true rfl⟩ [0, 1, 2, 3, 4, 5, 6, 7, 8, 9, 28, 29, 30, 31, 32, 33, 34, 35, 36, 37, 38, 39, 40, 41, 42, 43, 44, 45, 46, 47, 48, 49, 50, 51, 52, 53, 54, 55, 56, 57, 58, 59, 60, 61, 62, 63, 64, 65] (hc_114 (E := E)) (by decide +kernel) (k0 := 0) CL6 rfl hl.1 (Nat.le_of_ble_eq_true rfl) rfl dL_law_415 ⟨Nat.le_of_ble_eq_true rfl, Nat.le_of_ble_eq_true rfl⟩) (wHb h (a1 0) (a2 0) (a3 0) (ah 0) (a5 0) k hs ++ (wSt E a1 ((fX6_undo hs σ ny o η).2.1) ++ (wSt E a2 σn ++ (wSt E a3 σr ++ (wHs E ah hh ((fX6_undo hs σ ny o η).2.2) o η ++ (wTx E a5 t ++ (wSh k j z sp ++ (wWk j d ++ wMd E am μ sp2)))))))) [0, 1, 2, 3, 4, 5, 6, 7, 8, 9, 28, 29, 30, 31, 32, 33, 34, 35, 36, 37, 38, 39, 40, 41, 42, 43, 44, 45, 46, 47, 48, 49, 50, 51, 52, 53, 54, 55, 56, 57, 58, 59, 60, 61, 62, 63, 64, 65] (hc_114 (E := E)) (by decide +kernel) (ha_114 (E := E)) (hw_114 (E := E)) (fun H locs w => ?_)
  refine lv_aload_n hx hb dL_law_418 rfl (lv_at hl 1 rfl) ?_
  refine r_ci w (r_runV (As := []) (rest := [.int ((fX6_undo hs σ ny o η).1)]) X w (kX7_undo l E am μ sp2 (REL_gH R)) ck_L_61 ⟨Nat.le_of_ble_eq_true rfl, Nat.le_of_ble_eq_true rfl⟩ [72, 73, 74, 75, 76, 77, 78, 79, 80, 81] (hc_115 (E := E)) (by decide +kernel) (k0 := 0) CL7 rfl hl.1 (Nat.le_of_ble_eq_true rfl) rfl dL_law_419 ⟨Nat.le_of_ble_eq_true rfl, Nat.le_of_ble_eq_true rfl⟩) (wHb h (a1 0) (a2 0) (a3 0) (ah 0) (a5 0) k hs ++ (wSt E a1 ((fX6_undo hs σ ny o η).2.1) ++ (wSt E a2 σn ++ (wSt E a3 σr ++ (wHs E ah hh ((fX6_undo hs σ ny o η).2.2) o η ++ (wTx E a5 t ++ (wSh k j z sp ++ (wWk j d ++ wMd E am ((fX7_undo μ sp2).2) sp2)))))))) [72, 73, 74, 75, 76, 77, 78, 79, 80, 81] (hc_115 (E := E)) (by decide +kernel) (ha_115 (E := E)) (hw_115 (E := E)) (fun H locs w => ?_)
  refine lv_icmp_eq (tgt := 833) hx hb dL_law_422 (by decide) (fun _ => ?_) (fun h => absurd (s_undo R).1 h)
  exact next _ _ _ _ _ _ _ _ _ _ _ _ _ _ _ _ (s_undo R).2 w (lv_sub hl [0, 1, 2, 3] rfl)
theorem dL_law_427 : decode code 427 = .ok (.aload_n 1, 1) := by decide +kernel
theorem dL_law_428 : decode code 428 = .ok (.invokevirtual 62, 3) := by decide +kernel
theorem dL_law_431 : decode code 431 = .ok (.aload_n 2, 1) := by decide +kernel
theorem dL_law_432 : decode code 432 = .ok (.invokevirtual 65, 3) := by decide +kernel
theorem dL_law_435 : decode code 435 = .ok (.if_icmp .eq 398, 3) := by decide +kernel
theorem ck_L_62 : CkV RL 62 RX6 yX6_keep cX6_keep 1 (some .int) 0 := ⟨wm_L_62, wim_yX6_keep, wse_yX6_keep, wi_X6, wc_yX6_keep, by decide +kernel⟩
theorem ck_L_65 : CkV RL 65 RX7 yX7_keep cX7_keep 1 (some .int) 0 := ⟨wm_L_65, wim_yX7_keep, wse_yX7_keep, wi_X7, wc_yX7_keep, by decide +kernel⟩
theorem hc_119 {E : Ev} {a0 p0_0 p0_1 p0_2 p0_3 p0_4 p0_5 : Nat} {n0 : Int32} {a1 : Nat → Nat} {σ1 : N2} {a2 : Nat → Nat} {σ2 : N2} {a3 : Nat → Nat} {σ3 : N2} {a4 : Nat → Nat} {h4 : Nat → Nat → Nat} {n4 : Int32} {η4 : Nat → N2} {o4 : Nat} {a5 : Nat → Nat} {σ5 : N2} {a6 j6 : Nat} {σ6 : N1} {v6 : UInt32} {a7 : Nat} {σ7 : N1} {a8 : Nat → Nat} {σ8 : N2} {v8 : UInt32} : ([0, 1, 2, 3, 4, 5, 6, 7, 8, 9, 10, 11, 12, 13, 14, 15, 16, 17, 18] : List Nat).map (fun i => (wHb a0 p0_0 p0_1 p0_2 p0_3 p0_4 p0_5 n0 ++ (wSt E a1 σ1 ++ (wSt E a2 σ2 ++ (wSt E a3 σ3 ++ (wHs E a4 h4 n4 o4 η4 ++ (wTx E a5 σ5 ++ (wSh a6 j6 σ6 v6 ++ (wWk a7 σ7 ++ wMd E a8 σ8 v8))))))))[i]?) = (wHb a0 p0_0 p0_1 p0_2 p0_3 p0_4 p0_5 n0 ++ (wSt E a1 σ1 ++ wSt E a2 σ2)).map some := get_app (is1 := rg 0 1) (is2 := rg 1 9 ++ (rg 10 9)) (by rw [show wHb a0 p0_0 p0_1 p0_2 p0_3 p0_4 p0_5 n0 ++ (wSt E a1 σ1 ++ (wSt E a2 σ2 ++ (wSt E a3 σ3 ++ (wHs E a4 h4 n4 o4 η4 ++ (wTx E a5 σ5 ++ (wSh a6 j6 σ6 v6 ++ (wWk a7 σ7 ++ (wMd E a8 σ8 v8)))))))) = ([] : va_W) ++ (wHb a0 p0_0 p0_1 p0_2 p0_3 p0_4 p0_5 n0 ++ (wSt E a1 σ1 ++ (wSt E a2 σ2 ++ (wSt E a3 σ3 ++ (wHs E a4 h4 n4 o4 η4 ++ (wTx E a5 σ5 ++ (wSh a6 j6 σ6 v6 ++ (wWk a7 σ7 ++ (wMd E a8 σ8 v8))))))))) by simp only [List.append_assoc, List.nil_append, List.append_nil]]; exact get1 (s := 0) (n := 1) rfl rfl) (get_app (is1 := rg 1 9) (is2 := rg 10 9) (by rw [show wHb a0 p0_0 p0_1 p0_2 p0_3 p0_4 p0_5 n0 ++ (wSt E a1 σ1 ++ (wSt E a2 σ2 ++ (wSt E a3 σ3 ++ (wHs E a4 h4 n4 o4 η4 ++ (wTx E a5 σ5 ++ (wSh a6 j6 σ6 v6 ++ (wWk a7 σ7 ++ (wMd E a8 σ8 v8)))))))) = (wHb a0 p0_0 p0_1 p0_2 p0_3 p0_4 p0_5 n0) ++ (wSt E a1 σ1 ++ (wSt E a2 σ2 ++ (wSt E a3 σ3 ++ (wHs E a4 h4 n4 o4 η4 ++ (wTx E a5 σ5 ++ (wSh a6 j6 σ6 v6 ++ (wWk a7 σ7 ++ (wMd E a8 σ8 v8)))))))) by simp only [List.append_assoc, List.nil_append, List.append_nil]]; exact get1 (s := 1) (n := 9) rfl rfl) ((by rw [show wHb a0 p0_0 p0_1 p0_2 p0_3 p0_4 p0_5 n0 ++ (wSt E a1 σ1 ++ (wSt E a2 σ2 ++ (wSt E a3 σ3 ++ (wHs E a4 h4 n4 o4 η4 ++ (wTx E a5 σ5 ++ (wSh a6 j6 σ6 v6 ++ (wWk a7 σ7 ++ (wMd E a8 σ8 v8)))))))) = (wHb a0 p0_0 p0_1 p0_2 p0_3 p0_4 p0_5 n0 ++ (wSt E a1 σ1)) ++ (wSt E a2 σ2 ++ (wSt E a3 σ3 ++ (wHs E a4 h4 n4 o4 η4 ++ (wTx E a5 σ5 ++ (wSh a6 j6 σ6 v6 ++ (wWk a7 σ7 ++ (wMd E a8 σ8 v8))))))) by simp only [List.append_assoc, List.nil_append, List.append_nil]]; exact get1 (s := 10) (n := 9) rfl rfl)))
theorem ha_119 {E : Ev} {a0 p0_0 p0_1 p0_2 p0_3 p0_4 p0_5 : Nat} {n0 : Int32} {a1 : Nat → Nat} {σ1 : N2} {a2 : Nat → Nat} {σ2 : N2} {τ0_0 : Int32} {τ1_0 : N2} {τ2_0 : N2} : (wHb a0 p0_0 p0_1 p0_2 p0_3 p0_4 p0_5 τ0_0 ++ (wSt E a1 τ1_0 ++ wSt E a2 τ2_0)).map Prod.fst = (wHb a0 p0_0 p0_1 p0_2 p0_3 p0_4 p0_5 n0 ++ (wSt E a1 σ1 ++ wSt E a2 σ2)).map Prod.fst := fst_app fst_Hb (fst_app fst_St (fst_St))
theorem hw_119 {E : Ev} {a0 p0_0 p0_1 p0_2 p0_3 p0_4 p0_5 : Nat} {n0 : Int32} {a1 : Nat → Nat} {σ1 : N2} {a2 : Nat → Nat} {σ2 : N2} {a3 : Nat → Nat} {σ3 : N2} {a4 : Nat → Nat} {h4 : Nat → Nat → Nat} {n4 : Int32} {η4 : Nat → N2} {o4 : Nat} {a5 : Nat → Nat} {σ5 : N2} {a6 j6 : Nat} {σ6 : N1} {v6 : UInt32} {a7 : Nat} {σ7 : N1} {a8 : Nat → Nat} {σ8 : N2} {v8 : UInt32} {τ0_0 : Int32} {τ1_0 : N2} {τ2_0 : N2} : wput (wHb a0 p0_0 p0_1 p0_2 p0_3 p0_4 p0_5 n0 ++ (wSt E a1 σ1 ++ (wSt E a2 σ2 ++ (wSt E a3 σ3 ++ (wHs E a4 h4 n4 o4 η4 ++ (wTx E a5 σ5 ++ (wSh a6 j6 σ6 v6 ++ (wWk a7 σ7 ++ wMd E a8 σ8 v8)))))))) [0, 1, 2, 3, 4, 5, 6, 7, 8, 9, 10, 11, 12, 13, 14, 15, 16, 17, 18] (wHb a0 p0_0 p0_1 p0_2 p0_3 p0_4 p0_5 τ0_0 ++ (wSt E a1 τ1_0 ++ wSt E a2 τ2_0)) = wHb a0 p0_0 p0_1 p0_2 p0_3 p0_4 p0_5 τ0_0 ++ (wSt E a1 τ1_0 ++ (wSt E a2 τ2_0 ++ (wSt E a3 σ3 ++ (wHs E a4 h4 n4 o4 η4 ++ (wTx E a5 σ5 ++ (wSh a6 j6 σ6 v6 ++ (wWk a7 σ7 ++ wMd E a8 σ8 v8))))))) := by
  show wput (wHb a0 p0_0 p0_1 p0_2 p0_3 p0_4 p0_5 n0 ++ (wSt E a1 σ1 ++ (wSt E a2 σ2 ++ (wSt E a3 σ3 ++ (wHs E a4 h4 n4 o4 η4 ++ (wTx E a5 σ5 ++ (wSh a6 j6 σ6 v6 ++ (wWk a7 σ7 ++ (wMd E a8 σ8 v8))))))))) (rg 0 1 ++ (rg 1 9 ++ (rg 10 9))) (wHb a0 p0_0 p0_1 p0_2 p0_3 p0_4 p0_5 τ0_0 ++ (wSt E a1 τ1_0 ++ wSt E a2 τ2_0)) = _
  rw [wput_app rfl]
  rw [show wHb a0 p0_0 p0_1 p0_2 p0_3 p0_4 p0_5 n0 ++ (wSt E a1 σ1 ++ (wSt E a2 σ2 ++ (wSt E a3 σ3 ++ (wHs E a4 h4 n4 o4 η4 ++ (wTx E a5 σ5 ++ (wSh a6 j6 σ6 v6 ++ (wWk a7 σ7 ++ (wMd E a8 σ8 v8)))))))) = ([] : va_W) ++ (wHb a0 p0_0 p0_1 p0_2 p0_3 p0_4 p0_5 n0 ++ (wSt E a1 σ1 ++ (wSt E a2 σ2 ++ (wSt E a3 σ3 ++ (wHs E a4 h4 n4 o4 η4 ++ (wTx E a5 σ5 ++ (wSh a6 j6 σ6 v6 ++ (wWk a7 σ7 ++ (wMd E a8 σ8 v8))))))))) by simp only [List.append_assoc, List.nil_append, List.append_nil], put1 (s := 0) (n := 1) rfl rfl rfl]
  rw [wput_app rfl]
  rw [show ([] : va_W) ++ (wHb a0 p0_0 p0_1 p0_2 p0_3 p0_4 p0_5 τ0_0 ++ (wSt E a1 σ1 ++ (wSt E a2 σ2 ++ (wSt E a3 σ3 ++ (wHs E a4 h4 n4 o4 η4 ++ (wTx E a5 σ5 ++ (wSh a6 j6 σ6 v6 ++ (wWk a7 σ7 ++ (wMd E a8 σ8 v8))))))))) = (wHb a0 p0_0 p0_1 p0_2 p0_3 p0_4 p0_5 τ0_0) ++ (wSt E a1 σ1 ++ (wSt E a2 σ2 ++ (wSt E a3 σ3 ++ (wHs E a4 h4 n4 o4 η4 ++ (wTx E a5 σ5 ++ (wSh a6 j6 σ6 v6 ++ (wWk a7 σ7 ++ (wMd E a8 σ8 v8)))))))) by simp only [List.append_assoc, List.nil_append, List.append_nil], put1 (s := 1) (n := 9) rfl rfl rfl]
  rw [show (wHb a0 p0_0 p0_1 p0_2 p0_3 p0_4 p0_5 τ0_0) ++ (wSt E a1 τ1_0 ++ (wSt E a2 σ2 ++ (wSt E a3 σ3 ++ (wHs E a4 h4 n4 o4 η4 ++ (wTx E a5 σ5 ++ (wSh a6 j6 σ6 v6 ++ (wWk a7 σ7 ++ (wMd E a8 σ8 v8)))))))) = (wHb a0 p0_0 p0_1 p0_2 p0_3 p0_4 p0_5 τ0_0 ++ (wSt E a1 τ1_0)) ++ (wSt E a2 σ2 ++ (wSt E a3 σ3 ++ (wHs E a4 h4 n4 o4 η4 ++ (wTx E a5 σ5 ++ (wSh a6 j6 σ6 v6 ++ (wWk a7 σ7 ++ (wMd E a8 σ8 v8))))))) by simp only [List.append_assoc, List.nil_append, List.append_nil], put1 (s := 10) (n := 9) rfl rfl rfl]
  try simp only [List.append_assoc, List.nil_append, List.append_nil]
set_option maxHeartbeats 4000000 in
set_option maxRecDepth 100000 in
theorem law_keep (X : Cx p m meth c code 8 s #[Value.ref b] RL E (lwA s)) (hX : va_X b L xs s s.heap) (hbl : b < s.heap.size) (hL : L ≤ 3072) (hi : i + 6 ≤ L) (R : REL hs σ σn ny o η t μ) (w : Wd E (lwA s) s (wHb h (a1 0) (a2 0) (a3 0) (ah 0) (a5 0) k hs ++ (wSt E a1 σ ++ (wSt E a2 σn ++ (wSt E a3 σr ++ (wHs E ah hh ny o η ++ (wTx E a5 t ++ (wSh k j z sp ++ (wWk j d ++ wMd E am μ sp2)))))))) H locs) (hl : lv_has ls 8 [(3, .int (nI i)), (2, .ref (am 0)), (1, .ref h), (0, .ref b)]) (next : NX p l e s m b below meth c E h k j a1 a2 a3 ah a5 am hh i) : W p l e room_1 s m #[Value.ref b] below meth c H locs 82 1976 (lw_Z below #[Value.ref b] s) (F0 m 427 ls []) := by
  have hx := X.1
  have hb := X.2.1
  have hbA : ¬ lwA s b := lwA_out s b hbl
  refine lv_aload_n hx hb dL_law_427 rfl (lv_at hl 2 rfl) ?_
  refine r_ci w (r_runV (As := []) (rest := []) X w (kX6_keep l E h (a3 0) (ah 0) (a5 0) k hs a1 σ a2 σn ) ck_L_62 ⟨Nat.le_of_ble_eq_true rfl, Nat.le_of_ble_eq_true rfl⟩ [0, 1, 2, 3, 4, 5, 6, 7, 8, 9, 10, 11, 12, 13, 14, 15, 16, 17, 18] (hc_119 (E := E)) (by decide +kernel) (k0 := 0) CL6 rfl hl.1 (Nat.le_of_ble_eq_true rfl) rfl dL_law_428 ⟨Nat.le_of_ble_eq_true rfl, Nat.le_of_ble_eq_true rfl⟩) (wHb h (a1 0) (a2 0) (a3 0) (ah 0) (a5 0) k ((fX6_keep hs σ σn).2.1) ++ (wSt E a1 σ ++ (wSt E a2 ((fX6_keep hs σ σn).2.2) ++ (wSt E a3 σr ++ (wHs E ah hh ny o η ++ (wTx E a5 t ++ (wSh k j z sp ++ (wWk j d ++ wMd E am μ sp2)))))))) [0, 1, 2, 3, 4, 5, 6, 7, 8, 9, 10, 11, 12, 13, 14, 15, 16, 17, 18] (hc_119 (E := E)) (by decide +kernel) (ha_119 (E := E)) (hw_119 (E := E)) (fun H locs w => ?_)
  refine lv_aload_n hx hb dL_law_431 rfl (lv_at hl 1 rfl) ?_
  refine r_ci w (r_runV (As := []) (rest := [.int ((fX6_keep hs σ σn).1)]) X w (kX7_keep l E am μ sp2 (REL_gE R)) ck_L_65 ⟨Nat.le_of_ble_eq_true rfl, Nat.le_of_ble_eq_true rfl⟩ [72, 73, 74, 75, 76, 77, 78, 79, 80, 81] (hc_115 (E := E)) (by decide +kernel) (k0 := 0) CL7 rfl hl.1 (Nat.le_of_ble_eq_true rfl) rfl dL_law_432 ⟨Nat.le_of_ble_eq_true rfl, Nat.le_of_ble_eq_true rfl⟩) (wHb h (a1 0) (a2 0) (a3 0) (ah 0) (a5 0) k ((fX6_keep hs σ σn).2.1) ++ (wSt E a1 σ ++ (wSt E a2 ((fX6_keep hs σ σn).2.2) ++ (wSt E a3 σr ++ (wHs E ah hh ny o η ++ (wTx E a5 t ++ (wSh k j z sp ++ (wWk j d ++ wMd E am ((fX7_keep μ sp2).2) sp2)))))))) [72, 73, 74, 75, 76, 77, 78, 79, 80, 81] (hc_115 (E := E)) (by decide +kernel) (ha_115 (E := E)) (hw_115 (E := E)) (fun H locs w => ?_)
  refine lv_icmp_eq (tgt := 833) hx hb dL_law_435 (by decide) (fun _ => ?_) (fun h => absurd (s_keep R).1 h)
  exact next _ _ _ _ _ _ _ _ _ _ _ _ _ _ _ _ (s_keep R).2 w (lv_sub hl [0, 1, 2, 3] rfl)
theorem dL_law_440 : decode code 440 = .ok (.aload_n 1, 1) := by decide +kernel
theorem dL_law_441 : decode code 441 = .ok (.invokevirtual 66, 3) := by decide +kernel
theorem dL_law_444 : decode code 444 = .ok (.aload_n 2, 1) := by decide +kernel
theorem dL_law_445 : decode code 445 = .ok (.invokevirtual 69, 3) := by decide +kernel
theorem dL_law_448 : decode code 448 = .ok (.if_icmp .eq 385, 3) := by decide +kernel
theorem ck_L_66 : CkV RL 66 RX6 yX6_restore cX6_restore 1 (some .int) 0 := ⟨wm_L_66, wim_yX6_restore, wse_yX6_restore, wi_X6, wc_yX6_restore, by decide +kernel⟩
theorem ck_L_69 : CkV RL 69 RX7 yX7_restore cX7_restore 1 (some .int) 0 := ⟨wm_L_69, wim_yX7_restore, wse_yX7_restore, wi_X7, wc_yX7_restore, by decide +kernel⟩
theorem hc_120 {E : Ev} {a0 p0_0 p0_1 p0_2 p0_3 p0_4 p0_5 : Nat} {n0 : Int32} {a1 : Nat → Nat} {σ1 : N2} {a2 : Nat → Nat} {σ2 : N2} {a3 : Nat → Nat} {σ3 : N2} {a4 : Nat → Nat} {h4 : Nat → Nat → Nat} {n4 : Int32} {η4 : Nat → N2} {o4 : Nat} {a5 : Nat → Nat} {σ5 : N2} {a6 j6 : Nat} {σ6 : N1} {v6 : UInt32} {a7 : Nat} {σ7 : N1} {a8 : Nat → Nat} {σ8 : N2} {v8 : UInt32} : ([0, 1, 2, 3, 4, 5, 6, 7, 8, 9, 10, 11, 12, 13, 14, 15, 16, 17, 18, 28, 29, 30, 31, 32, 33, 34, 35, 36, 37, 38, 39, 40, 41, 42, 43, 44, 45, 46, 47, 48, 49, 50, 51, 52, 53, 54, 55, 56, 57, 58, 59, 60, 61, 62, 63, 64, 65] : List Nat).map (fun i => (wHb a0 p0_0 p0_1 p0_2 p0_3 p0_4 p0_5 n0 ++ (wSt E a1 σ1 ++ (wSt E a2 σ2 ++ (wSt E a3 σ3 ++ (wHs E a4 h4 n4 o4 η4 ++ (wTx E a5 σ5 ++ (wSh a6 j6 σ6 v6 ++ (wWk a7 σ7 ++ wMd E a8 σ8 v8))))))))[i]?) = (wHb a0 p0_0 p0_1 p0_2 p0_3 p0_4 p0_5 n0 ++ (wSt E a1 σ1 ++ (wSt E a2 σ2 ++ wHs E a4 h4 n4 o4 η4))).map some := get_app (is1 := rg 0 1) (is2 := rg 1 9 ++ (rg 10 9 ++ (rg 28 38))) (by rw [show wHb a0 p0_0 p0_1 p0_2 p0_3 p0_4 p0_5 n0 ++ (wSt E a1 σ1 ++ (wSt E a2 σ2 ++ (wSt E a3 σ3 ++ (wHs E a4 h4 n4 o4 η4 ++ (wTx E a5 σ5 ++ (wSh a6 j6 σ6 v6 ++ (wWk a7 σ7 ++ (wMd E a8 σ8 v8)))))))) = ([] : va_W) ++ (wHb a0 p0_0 p0_1 p0_2 p0_3 p0_4 p0_5 n0 ++ (wSt E a1 σ1 ++ (wSt E a2 σ2 ++ (wSt E a3 σ3 ++ (wHs E a4 h4 n4 o4 η4 ++ (wTx E a5 σ5 ++ (wSh a6 j6 σ6 v6 ++ (wWk a7 σ7 ++ (wMd E a8 σ8 v8))))))))) by simp only [List.append_assoc, List.nil_append, List.append_nil]]; exact get1 (s := 0) (n := 1) rfl rfl) (get_app (is1 := rg 1 9) (is2 := rg 10 9 ++ (rg 28 38)) (by rw [show wHb a0 p0_0 p0_1 p0_2 p0_3 p0_4 p0_5 n0 ++ (wSt E a1 σ1 ++ (wSt E a2 σ2 ++ (wSt E a3 σ3 ++ (wHs E a4 h4 n4 o4 η4 ++ (wTx E a5 σ5 ++ (wSh a6 j6 σ6 v6 ++ (wWk a7 σ7 ++ (wMd E a8 σ8 v8)))))))) = (wHb a0 p0_0 p0_1 p0_2 p0_3 p0_4 p0_5 n0) ++ (wSt E a1 σ1 ++ (wSt E a2 σ2 ++ (wSt E a3 σ3 ++ (wHs E a4 h4 n4 o4 η4 ++ (wTx E a5 σ5 ++ (wSh a6 j6 σ6 v6 ++ (wWk a7 σ7 ++ (wMd E a8 σ8 v8)))))))) by simp only [List.append_assoc, List.nil_append, List.append_nil]]; exact get1 (s := 1) (n := 9) rfl rfl) (get_app (is1 := rg 10 9) (is2 := rg 28 38) (by rw [show wHb a0 p0_0 p0_1 p0_2 p0_3 p0_4 p0_5 n0 ++ (wSt E a1 σ1 ++ (wSt E a2 σ2 ++ (wSt E a3 σ3 ++ (wHs E a4 h4 n4 o4 η4 ++ (wTx E a5 σ5 ++ (wSh a6 j6 σ6 v6 ++ (wWk a7 σ7 ++ (wMd E a8 σ8 v8)))))))) = (wHb a0 p0_0 p0_1 p0_2 p0_3 p0_4 p0_5 n0 ++ (wSt E a1 σ1)) ++ (wSt E a2 σ2 ++ (wSt E a3 σ3 ++ (wHs E a4 h4 n4 o4 η4 ++ (wTx E a5 σ5 ++ (wSh a6 j6 σ6 v6 ++ (wWk a7 σ7 ++ (wMd E a8 σ8 v8))))))) by simp only [List.append_assoc, List.nil_append, List.append_nil]]; exact get1 (s := 10) (n := 9) rfl rfl) ((by rw [show wHb a0 p0_0 p0_1 p0_2 p0_3 p0_4 p0_5 n0 ++ (wSt E a1 σ1 ++ (wSt E a2 σ2 ++ (wSt E a3 σ3 ++ (wHs E a4 h4 n4 o4 η4 ++ (wTx E a5 σ5 ++ (wSh a6 j6 σ6 v6 ++ (wWk a7 σ7 ++ (wMd E a8 σ8 v8)))))))) = (wHb a0 p0_0 p0_1 p0_2 p0_3 p0_4 p0_5 n0 ++ (wSt E a1 σ1 ++ (wSt E a2 σ2 ++ (wSt E a3 σ3)))) ++ (wHs E a4 h4 n4 o4 η4 ++ (wTx E a5 σ5 ++ (wSh a6 j6 σ6 v6 ++ (wWk a7 σ7 ++ (wMd E a8 σ8 v8))))) by simp only [List.append_assoc, List.nil_append, List.append_nil]]; exact get1 (s := 28) (n := 38) rfl rfl))))
theorem ha_120 {E : Ev} {a0 p0_0 p0_1 p0_2 p0_3 p0_4 p0_5 : Nat} {n0 : Int32} {a1 : Nat → Nat} {σ1 : N2} {a2 : Nat → Nat} {σ2 : N2} {a4 : Nat → Nat} {h4 : Nat → Nat → Nat} {n4 : Int32} {η4 : Nat → N2} {o4 : Nat} {τ0_0 : Int32} {τ1_0 : N2} {τ2_0 : N2} {τ3_0 : Int32} {τ3_1 : Nat} {τ3_2 : Nat → N2} : (wHb a0 p0_0 p0_1 p0_2 p0_3 p0_4 p0_5 τ0_0 ++ (wSt E a1 τ1_0 ++ (wSt E a2 τ2_0 ++ wHs E a4 h4 τ3_0 τ3_1 τ3_2))).map Prod.fst = (wHb a0 p0_0 p0_1 p0_2 p0_3 p0_4 p0_5 n0 ++ (wSt E a1 σ1 ++ (wSt E a2 σ2 ++ wHs E a4 h4 n4 o4 η4))).map Prod.fst := fst_app fst_Hb (fst_app fst_St (fst_app fst_St (fst_Hs)))
theorem hw_120 {E : Ev} {a0 p0_0 p0_1 p0_2 p0_3 p0_4 p0_5 : Nat} {n0 : Int32} {a1 : Nat → Nat} {σ1 : N2} {a2 : Nat → Nat} {σ2 : N2} {a3 : Nat → Nat} {σ3 : N2} {a4 : Nat → Nat} {h4 : Nat → Nat → Nat} {n4 : Int32} {η4 : Nat → N2} {o4 : Nat} {a5 : Nat → Nat} {σ5 : N2} {a6 j6 : Nat} {σ6 : N1} {v6 : UInt32} {a7 : Nat} {σ7 : N1} {a8 : Nat → Nat} {σ8 : N2} {v8 : UInt32} {τ0_0 : Int32} {τ1_0 : N2} {τ2_0 : N2} {τ3_0 : Int32} {τ3_1 : Nat} {τ3_2 : Nat → N2} : wput (wHb a0 p0_0 p0_1 p0_2 p0_3 p0_4 p0_5 n0 ++ (wSt E a1 σ1 ++ (wSt E a2 σ2 ++ (wSt E a3 σ3 ++ (wHs E a4 h4 n4 o4 η4 ++ (wTx E a5 σ5 ++ (wSh a6 j6 σ6 v6 ++ (wWk a7 σ7 ++ wMd E a8 σ8 v8)))))))) [0, 1, 2, 3, 4, 5, 6, 7, 8, 9, 10, 11, 12, 13, 14, 15, 16, 17, 18, 28, 29, 30, 31, 32, 33, 34, 35, 36, 37, 38, 39, 40, 41, 42, 43, 44, 45, 46, 47, 48, 49, 50, 51, 52, 53, 54, 55, 56, 57, 58, 59, 60, 61, 62, 63, 64, 65] (wHb a0 p0_0 p0_1 p0_2 p0_3 p0_4 p0_5 τ0_0 ++ (wSt E a1 τ1_0 ++ (wSt E a2 τ2_0 ++ wHs E a4 h4 τ3_0 τ3_1 τ3_2))) = wHb a0 p0_0 p0_1 p0_2 p0_3 p0_4 p0_5 τ0_0 ++ (wSt E a1 τ1_0 ++ (wSt E a2 τ2_0 ++ (wSt E a3 σ3 ++ (wHs E a4 h4 τ3_0 τ3_1 τ3_2 ++ (wTx E a5 σ5 ++ (wSh a6 j6 σ6 v6 ++ (wWk a7 σ7 ++ wMd E a8 σ8 v8))))))) := by
  show wput (wHb a0 p0_0 p0_1 p0_2 p0_3 p0_4 p0_5 n0 ++ (wSt E a1 σ1 ++ (wSt E a2 σ2 ++ (wSt E a3 σ3 ++ (wHs E a4 h4 n4 o4 η4 ++ (wTx E a5 σ5 ++ (wSh a6 j6 σ6 v6 ++ (wWk a7 σ7 ++ (wMd E a8 σ8 v8))))))))) (rg 0 1 ++ (rg 1 9 ++ (rg 10 9 ++ (rg 28 38)))) (wHb a0 p0_0 p0_1 p0_2 p0_3 p0_4 p0_5 τ0_0 ++ (wSt E a1 τ1_0 ++ (wSt E a2 τ2_0 ++ wHs E a4 h4 τ3_0 τ3_1 τ3_2))) = _
  rw [wput_app rfl]
  rw [show wHb a0 p0_0 p0_1 p0_2 p0_3 p0_4 p0_5 n0 ++ (wSt E a1 σ1 ++ (wSt E a2 σ2 ++ (wSt E a3 σ3 ++ (wHs E a4 h4 n4 o4 η4 ++ (wTx E a5 σ5 ++ (wSh a6 j6 σ6 v6 ++ (wWk a7 σ7 ++ (wMd E a8 σ8 v8)))))))) = ([] : va_W) ++ (wHb a0 p0_0 p0_1 p0_2 p0_3 p0_4 p0_5 n0 ++ (wSt E a1 σ1 ++ (wSt E a2 σ2 ++ (wSt E a3 σ3 ++ (wHs E a4 h4 n4 o4 η4 ++ (wTx E a5 σ5 ++ (wSh a6 j6 σ6 v6 ++ (wWk a7 σ7 ++ (wMd E a8 σ8 v8))))))))) by simp only [List.append_assoc, List.nil_append, List.append_nil], put1 (s := 0) (n := 1) rfl rfl rfl]
  rw [wput_app rfl]
  rw [show ([] : va_W) ++ (wHb a0 p0_0 p0_1 p0_2 p0_3 p0_4 p0_5 τ0_0 ++ (wSt E a1 σ1 ++ (wSt E a2 σ2 ++ (wSt E a3 σ3 ++ (wHs E a4 h4 n4 o4 η4 ++ (wTx E a5 σ5 ++ (wSh a6 j6 σ6 v6 ++ (wWk a7 σ7 ++ (wMd E a8 σ8 v8))))))))) = (wHb a0 p0_0 p0_1 p0_2 p0_3 p0_4 p0_5 τ0_0) ++ (wSt E a1 σ1 ++ (wSt E a2 σ2 ++ (wSt E a3 σ3 ++ (wHs E a4 h4 n4 o4 η4 ++ (wTx E a5 σ5 ++ (wSh a6 j6 σ6 v6 ++ (wWk a7 σ7 ++ (wMd E a8 σ8 v8)))))))) by simp only [List.append_assoc, List.nil_append, List.append_nil], put1 (s := 1) (n := 9) rfl rfl rfl]
  rw [wput_app rfl]
  rw [show (wHb a0 p0_0 p0_1 p0_2 p0_3 p0_4 p0_5 τ0_0) ++ (wSt E a1 τ1_0 ++ (wSt E a2 σ2 ++ (wSt E a3 σ3 ++ (wHs E a4 h4 n4 o4 η4 ++ (wTx E a5 σ5 ++ (wSh a6 j6 σ6 v6 ++ (wWk a7 σ7 ++ (wMd E a8 σ8 v8)))))))) = (wHb a0 p0_0 p0_1 p0_2 p0_3 p0_4 p0_5 τ0_0 ++ (wSt E a1 τ1_0)) ++ (wSt E a2 σ2 ++ (wSt E a3 σ3 ++ (wHs E a4 h4 n4 o4 η4 ++ (wTx E a5 σ5 ++ (wSh a6 j6 σ6 v6 ++ (wWk a7 σ7 ++ (wMd E a8 σ8 v8))))))) by simp only [List.append_assoc, List.nil_append, List.append_nil], put1 (s := 10) (n := 9) rfl rfl rfl]
  rw [show (wHb a0 p0_0 p0_1 p0_2 p0_3 p0_4 p0_5 τ0_0 ++ (wSt E a1 τ1_0)) ++ (wSt E a2 τ2_0 ++ (wSt E a3 σ3 ++ (wHs E a4 h4 n4 o4 η4 ++ (wTx E a5 σ5 ++ (wSh a6 j6 σ6 v6 ++ (wWk a7 σ7 ++ (wMd E a8 σ8 v8))))))) = (wHb a0 p0_0 p0_1 p0_2 p0_3 p0_4 p0_5 τ0_0 ++ (wSt E a1 τ1_0 ++ (wSt E a2 τ2_0 ++ (wSt E a3 σ3)))) ++ (wHs E a4 h4 n4 o4 η4 ++ (wTx E a5 σ5 ++ (wSh a6 j6 σ6 v6 ++ (wWk a7 σ7 ++ (wMd E a8 σ8 v8))))) by simp only [List.append_assoc, List.nil_append, List.append_nil], put1 (s := 28) (n := 38) rfl rfl rfl]
  try simp only [List.append_assoc, List.nil_append, List.append_nil]
set_option maxHeartbeats 4000000 in
set_option maxRecDepth 100000 in
theorem law_restore (X : Cx p m meth c code 8 s #[Value.ref b] RL E (lwA s)) (hX : va_X b L xs s s.heap) (hbl : b < s.heap.size) (hL : L ≤ 3072) (hi : i + 6 ≤ L) (R : REL hs σ σn ny o η t μ) (w : Wd E (lwA s) s (wHb h (a1 0) (a2 0) (a3 0) (ah 0) (a5 0) k hs ++ (wSt E a1 σ ++ (wSt E a2 σn ++ (wSt E a3 σr ++ (wHs E ah hh ny o η ++ (wTx E a5 t ++ (wSh k j z sp ++ (wWk j d ++ wMd E am μ sp2)))))))) H locs) (hl : lv_has ls 8 [(3, .int (nI i)), (2, .ref (am 0)), (1, .ref h), (0, .ref b)]) (next : NX p l e s m b below meth c E h k j a1 a2 a3 ah a5 am hh i) : W p l e room_1 s m #[Value.ref b] below meth c H locs 82 1976 (lw_Z below #[Value.ref b] s) (F0 m 440 ls []) := by
  have hx := X.1
  have hb := X.2.1
  have hbA : ¬ lwA s b := lwA_out s b hbl
  refine lv_aload_n hx hb dL_law_440 rfl (lv_at hl 2 rfl) ?_
  refine r_ci w (r_runV (As := []) (rest := []) X w (kX6_restore l E h (a3 0) (a5 0) k hs a1 σ a2 σn ah hh ny o η ) ck_L_66 ⟨Nat.le_of_ble_eq_true rfl, Nat.le_of_ble_eq_true rfl⟩ [0, 1, 2, 3, 4, 5, 6, 7, 8, 9, 10, 11, 12, 13, 14, 15, 16, 17, 18, 28, 29, 30, 31, 32, 33, 34, 35, 36, 37, 38, 39, 40, 41, 42, 43, 44, 45, 46, 47, 48, 49, 50, 51, 52, 53, 54, 55, 56, 57, 58, 59, 60, 61, 62, 63, 64, 65] (hc_120 (E := E)) (by decide +kernel) (k0 := 0) CL6 rfl hl.1 (Nat.le_of_ble_eq_true rfl) rfl dL_law_441 ⟨Nat.le_of_ble_eq_true rfl, Nat.le_of_ble_eq_true rfl⟩) (wHb h (a1 0) (a2 0) (a3 0) (ah 0) (a5 0) k hs ++ (wSt E a1 ((fX6_restore hs σ σn ny o η).2.1) ++ (wSt E a2 σn ++ (wSt E a3 σr ++ (wHs E ah hh ((fX6_restore hs σ σn ny o η).2.2.1) ((fX6_restore hs σ σn ny o η).2.2.2.1) ((fX6_restore hs σ σn ny o η).2.2.2.2) ++ (wTx E a5 t ++ (wSh k j z sp ++ (wWk j d ++ wMd E am μ sp2)))))))) [0, 1, 2, 3, 4, 5, 6, 7, 8, 9, 10, 11, 12, 13, 14, 15, 16, 17, 18, 28, 29, 30, 31, 32, 33, 34, 35, 36, 37, 38, 39, 40, 41, 42, 43, 44, 45, 46, 47, 48, 49, 50, 51, 52, 53, 54, 55, 56, 57, 58, 59, 60, 61, 62, 63, 64, 65] (hc_120 (E := E)) (by decide +kernel) (ha_120 (E := E)) (hw_120 (E := E)) (fun H locs w => ?_)
  refine lv_aload_n hx hb dL_law_444 rfl (lv_at hl 1 rfl) ?_
  refine r_ci w (r_runV (As := []) (rest := [.int ((fX6_restore hs σ σn ny o η).1)]) X w (kX7_restore l E am μ sp2 (REL_gH R) (REL_g4 R)) ck_L_69 ⟨Nat.le_of_ble_eq_true rfl, Nat.le_of_ble_eq_true rfl⟩ [72, 73, 74, 75, 76, 77, 78, 79, 80, 81] (hc_115 (E := E)) (by decide +kernel) (k0 := 0) CL7 rfl hl.1 (Nat.le_of_ble_eq_true rfl) rfl dL_law_445 ⟨Nat.le_of_ble_eq_true rfl, Nat.le_of_ble_eq_true rfl⟩) (wHb h (a1 0) (a2 0) (a3 0) (ah 0) (a5 0) k hs ++ (wSt E a1 ((fX6_restore hs σ σn ny o η).2.1) ++ (wSt E a2 σn ++ (wSt E a3 σr ++ (wHs E ah hh ((fX6_restore hs σ σn ny o η).2.2.1) ((fX6_restore hs σ σn ny o η).2.2.2.1) ((fX6_restore hs σ σn ny o η).2.2.2.2) ++ (wTx E a5 t ++ (wSh k j z sp ++ (wWk j d ++ wMd E am ((fX7_restore μ sp2).2) sp2)))))))) [72, 73, 74, 75, 76, 77, 78, 79, 80, 81] (hc_115 (E := E)) (by decide +kernel) (ha_115 (E := E)) (hw_115 (E := E)) (fun H locs w => ?_)
  refine lv_icmp_eq (tgt := 833) hx hb dL_law_448 (by decide) (fun _ => ?_) (fun h => absurd (s_restore R).1 h)
  exact next _ _ _ _ _ _ _ _ _ _ _ _ _ _ _ _ (s_restore R).2 w (lv_sub hl [0, 1, 2, 3] rfl)
theorem dL_law_453 : decode code 453 = .ok (.aload_n 1, 1) := by decide +kernel
theorem dL_law_454 : decode code 454 = .ok (.aload_n 0, 1) := by decide +kernel
theorem dL_law_455 : decode code 455 = .ok (.iload_n 3, 1) := by decide +kernel
theorem dL_law_456 : decode code 456 = .ok (.iconst 1, 1) := by decide +kernel
theorem dL_law_457 : decode code 457 = .ok (.iadd, 1) := by decide +kernel
theorem dL_law_458 : decode code 458 = .ok (.iaload, 1) := by decide +kernel
theorem dL_law_459 : decode code 459 = .ok (.aload_n 0, 1) := by decide +kernel
theorem dL_law_460 : decode code 460 = .ok (.iload_n 3, 1) := by decide +kernel
theorem dL_law_461 : decode code 461 = .ok (.iconst 2, 1) := by decide +kernel
theorem dL_law_462 : decode code 462 = .ok (.iadd, 1) := by decide +kernel
theorem dL_law_463 : decode code 463 = .ok (.iaload, 1) := by decide +kernel
theorem dL_law_464 : decode code 464 = .ok (.invokevirtual 70, 3) := by decide +kernel
theorem dL_law_467 : decode code 467 = .ok (.aload_n 2, 1) := by decide +kernel
theorem dL_law_468 : decode code 468 = .ok (.aload_n 0, 1) := by decide +kernel
theorem dL_law_469 : decode code 469 = .ok (.iload_n 3, 1) := by decide +kernel
theorem dL_law_470 : decode code 470 = .ok (.iconst 1, 1) := by decide +kernel
theorem dL_law_471 : decode code 471 = .ok (.iadd, 1) := by decide +kernel
theorem dL_law_472 : decode code 472 = .ok (.iaload, 1) := by decide +kernel
theorem dL_law_473 : decode code 473 = .ok (.aload_n 0, 1) := by decide +kernel
theorem dL_law_474 : decode code 474 = .ok (.iload_n 3, 1) := by decide +kernel
theorem dL_law_475 : decode code 475 = .ok (.iconst 2, 1) := by decide +kernel
theorem dL_law_476 : decode code 476 = .ok (.iadd, 1) := by decide +kernel
theorem dL_law_477 : decode code 477 = .ok (.iaload, 1) := by decide +kernel
theorem dL_law_478 : decode code 478 = .ok (.invokevirtual 73, 3) := by decide +kernel
theorem dL_law_481 : decode code 481 = .ok (.if_icmp .eq 352, 3) := by decide +kernel
theorem ck_L_70 : CkV RL 70 RX6 yX6_cell cX6_cell 3 (some .int) 2 := ⟨wm_L_70, wim_yX6_cell, wse_yX6_cell, wi_X6, wc_yX6_cell, by decide +kernel⟩
theorem ck_L_73 : CkV RL 73 RX7 yX7_cell cX7_cell 3 (some .int) 2 := ⟨wm_L_73, wim_yX7_cell, wse_yX7_cell, wi_X7, wc_yX7_cell, by decide +kernel⟩
theorem hc_121 {E : Ev} {a0 p0_0 p0_1 p0_2 p0_3 p0_4 p0_5 : Nat} {n0 : Int32} {a1 : Nat → Nat} {σ1 : N2} {a2 : Nat → Nat} {σ2 : N2} {a3 : Nat → Nat} {σ3 : N2} {a4 : Nat → Nat} {h4 : Nat → Nat → Nat} {n4 : Int32} {η4 : Nat → N2} {o4 : Nat} {a5 : Nat → Nat} {σ5 : N2} {a6 j6 : Nat} {σ6 : N1} {v6 : UInt32} {a7 : Nat} {σ7 : N1} {a8 : Nat → Nat} {σ8 : N2} {v8 : UInt32} : ([0] : List Nat).map (fun i => (wHb a0 p0_0 p0_1 p0_2 p0_3 p0_4 p0_5 n0 ++ (wSt E a1 σ1 ++ (wSt E a2 σ2 ++ (wSt E a3 σ3 ++ (wHs E a4 h4 n4 o4 η4 ++ (wTx E a5 σ5 ++ (wSh a6 j6 σ6 v6 ++ (wWk a7 σ7 ++ wMd E a8 σ8 v8))))))))[i]?) = (wHb a0 p0_0 p0_1 p0_2 p0_3 p0_4 p0_5 n0).map some := by rw [show wHb a0 p0_0 p0_1 p0_2 p0_3 p0_4 p0_5 n0 ++ (wSt E a1 σ1 ++ (wSt E a2 σ2 ++ (wSt E a3 σ3 ++ (wHs E a4 h4 n4 o4 η4 ++ (wTx E a5 σ5 ++ (wSh a6 j6 σ6 v6 ++ (wWk a7 σ7 ++ (wMd E a8 σ8 v8)))))))) = ([] : va_W) ++ (wHb a0 p0_0 p0_1 p0_2 p0_3 p0_4 p0_5 n0 ++ (wSt E a1 σ1 ++ (wSt E a2 σ2 ++ (wSt E a3 σ3 ++ (wHs E a4 h4 n4 o4 η4 ++ (wTx E a5 σ5 ++ (wSh a6 j6 σ6 v6 ++ (wWk a7 σ7 ++ (wMd E a8 σ8 v8))))))))) by simp only [List.append_assoc, List.nil_append, List.append_nil]]; exact get1 (s := 0) (n := 1) rfl rfl
theorem ha_121 {E : Ev} {a0 p0_0 p0_1 p0_2 p0_3 p0_4 p0_5 : Nat} {n0 : Int32} {τ0_0 : Int32} : (wHb a0 p0_0 p0_1 p0_2 p0_3 p0_4 p0_5 τ0_0).map Prod.fst = (wHb a0 p0_0 p0_1 p0_2 p0_3 p0_4 p0_5 n0).map Prod.fst := fst_Hb
theorem hw_121 {E : Ev} {a0 p0_0 p0_1 p0_2 p0_3 p0_4 p0_5 : Nat} {n0 : Int32} {a1 : Nat → Nat} {σ1 : N2} {a2 : Nat → Nat} {σ2 : N2} {a3 : Nat → Nat} {σ3 : N2} {a4 : Nat → Nat} {h4 : Nat → Nat → Nat} {n4 : Int32} {η4 : Nat → N2} {o4 : Nat} {a5 : Nat → Nat} {σ5 : N2} {a6 j6 : Nat} {σ6 : N1} {v6 : UInt32} {a7 : Nat} {σ7 : N1} {a8 : Nat → Nat} {σ8 : N2} {v8 : UInt32} {τ0_0 : Int32} : wput (wHb a0 p0_0 p0_1 p0_2 p0_3 p0_4 p0_5 n0 ++ (wSt E a1 σ1 ++ (wSt E a2 σ2 ++ (wSt E a3 σ3 ++ (wHs E a4 h4 n4 o4 η4 ++ (wTx E a5 σ5 ++ (wSh a6 j6 σ6 v6 ++ (wWk a7 σ7 ++ wMd E a8 σ8 v8)))))))) [0] (wHb a0 p0_0 p0_1 p0_2 p0_3 p0_4 p0_5 τ0_0) = wHb a0 p0_0 p0_1 p0_2 p0_3 p0_4 p0_5 τ0_0 ++ (wSt E a1 σ1 ++ (wSt E a2 σ2 ++ (wSt E a3 σ3 ++ (wHs E a4 h4 n4 o4 η4 ++ (wTx E a5 σ5 ++ (wSh a6 j6 σ6 v6 ++ (wWk a7 σ7 ++ wMd E a8 σ8 v8))))))) := by
  show wput (wHb a0 p0_0 p0_1 p0_2 p0_3 p0_4 p0_5 n0 ++ (wSt E a1 σ1 ++ (wSt E a2 σ2 ++ (wSt E a3 σ3 ++ (wHs E a4 h4 n4 o4 η4 ++ (wTx E a5 σ5 ++ (wSh a6 j6 σ6 v6 ++ (wWk a7 σ7 ++ (wMd E a8 σ8 v8))))))))) (rg 0 1) (wHb a0 p0_0 p0_1 p0_2 p0_3 p0_4 p0_5 τ0_0) = _
  rw [show wHb a0 p0_0 p0_1 p0_2 p0_3 p0_4 p0_5 n0 ++ (wSt E a1 σ1 ++ (wSt E a2 σ2 ++ (wSt E a3 σ3 ++ (wHs E a4 h4 n4 o4 η4 ++ (wTx E a5 σ5 ++ (wSh a6 j6 σ6 v6 ++ (wWk a7 σ7 ++ (wMd E a8 σ8 v8)))))))) = ([] : va_W) ++ (wHb a0 p0_0 p0_1 p0_2 p0_3 p0_4 p0_5 n0 ++ (wSt E a1 σ1 ++ (wSt E a2 σ2 ++ (wSt E a3 σ3 ++ (wHs E a4 h4 n4 o4 η4 ++ (wTx E a5 σ5 ++ (wSh a6 j6 σ6 v6 ++ (wWk a7 σ7 ++ (wMd E a8 σ8 v8))))))))) by simp only [List.append_assoc, List.nil_append, List.append_nil], put1 (s := 0) (n := 1) rfl rfl rfl]
  try simp only [List.append_assoc, List.nil_append, List.append_nil]
set_option maxHeartbeats 4000000 in
set_option maxRecDepth 100000 in
theorem law_cell (X : Cx p m meth c code 8 s #[Value.ref b] RL E (lwA s)) (hX : va_X b L xs s s.heap) (hbl : b < s.heap.size) (hL : L ≤ 3072) (hi : i + 6 ≤ L) (R : REL hs σ σn ny o η t μ) (w : Wd E (lwA s) s (wHb h (a1 0) (a2 0) (a3 0) (ah 0) (a5 0) k hs ++ (wSt E a1 σ ++ (wSt E a2 σn ++ (wSt E a3 σr ++ (wHs E ah hh ny o η ++ (wTx E a5 t ++ (wSh k j z sp ++ (wWk j d ++ wMd E am μ sp2)))))))) H locs) (hl : lv_has ls 8 [(3, .int (nI i)), (2, .ref (am 0)), (1, .ref h), (0, .ref b)]) (next : NX p l e s m b below meth c E h k j a1 a2 a3 ah a5 am hh i) : W p l e room_1 s m #[Value.ref b] below meth c H locs 82 1976 (lw_Z below #[Value.ref b] s) (F0 m 453 ls []) := by
  have hx := X.1
  have hb := X.2.1
  have hbA : ¬ lwA s b := lwA_out s b hbl
  refine lv_aload_n hx hb dL_law_453 rfl (lv_at hl 2 rfl) ?_
  refine lv_aload_n hx hb dL_law_454 rfl (lv_at hl 3 rfl) ?_
  refine lv_iload_n hx hb dL_law_455 rfl (lv_at hl 0 rfl) ?_
  refine lv_iconst (v := 1) hx hb dL_law_456 (by decide) ?_
  refine lv_iadd hx hb dL_law_457 ?_
  refine va_sld hx hb hX hbl hbA w.2.2 (sx_ix (k := 1) 1 rfl (by decide) hi hL) dL_law_458 ?_
  refine lv_aload_n hx hb dL_law_459 rfl (lv_at hl 3 rfl) ?_
  refine lv_iload_n hx hb dL_law_460 rfl (lv_at hl 0 rfl) ?_
  refine lv_iconst (v := 2) hx hb dL_law_461 (by decide) ?_
  refine lv_iadd hx hb dL_law_462 ?_
  refine va_sld hx hb hX hbl hbA w.2.2 (sx_ix (k := 2) 2 rfl (by decide) hi hL) dL_law_463 ?_
  refine r_ci w (r_runV (As := [.int (xs ((nI i) + 1).toNatClampNeg), .int (xs ((nI i) + 2).toNatClampNeg)]) (rest := []) X w (kX6_cell l E h (a1 0) (a2 0) (a3 0) (ah 0) (a5 0) k hs (xs ((nI i) + 1).toNatClampNeg) (xs ((nI i) + 2).toNatClampNeg) ) ck_L_70 ⟨Nat.le_of_ble_eq_true rfl, Nat.le_of_ble_eq_true rfl⟩ [0] (hc_121 (E := E)) (by decide +kernel) (k0 := 0) CL6 rfl hl.1 (Nat.le_of_ble_eq_true rfl) rfl dL_law_464 ⟨Nat.le_of_ble_eq_true rfl, Nat.le_of_ble_eq_true rfl⟩) (wHb h (a1 0) (a2 0) (a3 0) (ah 0) (a5 0) k hs ++ (wSt E a1 σ ++ (wSt E a2 σn ++ (wSt E a3 σr ++ (wHs E ah hh ny o η ++ (wTx E a5 t ++ (wSh k j z sp ++ (wWk j d ++ wMd E am μ sp2)))))))) [0] (hc_121 (E := E)) (by decide +kernel) (ha_121 (E := E)) (hw_121 (E := E)) (fun H locs w => ?_)
  refine lv_aload_n hx hb dL_law_467 rfl (lv_at hl 1 rfl) ?_
  refine lv_aload_n hx hb dL_law_468 rfl (lv_at hl 3 rfl) ?_
  refine lv_iload_n hx hb dL_law_469 rfl (lv_at hl 0 rfl) ?_
  refine lv_iconst (v := 1) hx hb dL_law_470 (by decide) ?_
  refine lv_iadd hx hb dL_law_471 ?_
  refine va_sld hx hb hX hbl hbA w.2.2 (sx_ix (k := 1) 1 rfl (by decide) hi hL) dL_law_472 ?_
  refine lv_aload_n hx hb dL_law_473 rfl (lv_at hl 3 rfl) ?_
  refine lv_iload_n hx hb dL_law_474 rfl (lv_at hl 0 rfl) ?_
  refine lv_iconst (v := 2) hx hb dL_law_475 (by decide) ?_
  refine lv_iadd hx hb dL_law_476 ?_
  refine va_sld hx hb hX hbl hbA w.2.2 (sx_ix (k := 2) 2 rfl (by decide) hi hL) dL_law_477 ?_
  refine r_ci w (r_runV (As := [.int (xs ((nI i) + 1).toNatClampNeg), .int (xs ((nI i) + 2).toNatClampNeg)]) (rest := [.int (fX6_cell hs (xs ((nI i) + 1).toNatClampNeg) (xs ((nI i) + 2).toNatClampNeg))]) X w (kX7_cell l E am μ sp2 (xs ((nI i) + 1).toNatClampNeg) (xs ((nI i) + 2).toNatClampNeg) ) ck_L_73 ⟨Nat.le_of_ble_eq_true rfl, Nat.le_of_ble_eq_true rfl⟩ [72, 73, 74, 75, 76, 77, 78, 79, 80, 81] (hc_115 (E := E)) (by decide +kernel) (k0 := 0) CL7 rfl hl.1 (Nat.le_of_ble_eq_true rfl) rfl dL_law_478 ⟨Nat.le_of_ble_eq_true rfl, Nat.le_of_ble_eq_true rfl⟩) (wHb h (a1 0) (a2 0) (a3 0) (ah 0) (a5 0) k hs ++ (wSt E a1 σ ++ (wSt E a2 σn ++ (wSt E a3 σr ++ (wHs E ah hh ny o η ++ (wTx E a5 t ++ (wSh k j z sp ++ (wWk j d ++ wMd E am μ sp2)))))))) [72, 73, 74, 75, 76, 77, 78, 79, 80, 81] (hc_115 (E := E)) (by decide +kernel) (ha_115 (E := E)) (hw_115 (E := E)) (fun H locs w => ?_)
  refine lv_icmp_eq (tgt := 833) hx hb dL_law_481 (by decide) (fun _ => ?_) (fun h => absurd (s_cell R) h)
  exact next _ _ _ _ _ _ _ _ _ _ _ _ _ _ _ _ R w (lv_sub hl [0, 1, 2, 3] rfl)
theorem dL_law_486 : decode code 486 = .ok (.aload_n 1, 1) := by decide +kernel
theorem dL_law_487 : decode code 487 = .ok (.aload_n 0, 1) := by decide +kernel
theorem dL_law_488 : decode code 488 = .ok (.iload_n 3, 1) := by decide +kernel
theorem dL_law_489 : decode code 489 = .ok (.iconst 1, 1) := by decide +kernel
theorem dL_law_490 : decode code 490 = .ok (.iadd, 1) := by decide +kernel
theorem dL_law_491 : decode code 491 = .ok (.iaload, 1) := by decide +kernel
theorem dL_law_492 : decode code 492 = .ok (.aload_n 0, 1) := by decide +kernel
theorem dL_law_493 : decode code 493 = .ok (.iload_n 3, 1) := by decide +kernel
theorem dL_law_494 : decode code 494 = .ok (.iconst 2, 1) := by decide +kernel
theorem dL_law_495 : decode code 495 = .ok (.iadd, 1) := by decide +kernel
theorem dL_law_496 : decode code 496 = .ok (.iaload, 1) := by decide +kernel
theorem dL_law_497 : decode code 497 = .ok (.invokevirtual 74, 3) := by decide +kernel
theorem dL_law_500 : decode code 500 = .ok (.aload_n 2, 1) := by decide +kernel
theorem dL_law_501 : decode code 501 = .ok (.aload_n 0, 1) := by decide +kernel
theorem dL_law_502 : decode code 502 = .ok (.iload_n 3, 1) := by decide +kernel
theorem dL_law_503 : decode code 503 = .ok (.iconst 1, 1) := by decide +kernel
theorem dL_law_504 : decode code 504 = .ok (.iadd, 1) := by decide +kernel
theorem dL_law_505 : decode code 505 = .ok (.iaload, 1) := by decide +kernel
theorem dL_law_506 : decode code 506 = .ok (.aload_n 0, 1) := by decide +kernel
theorem dL_law_507 : decode code 507 = .ok (.iload_n 3, 1) := by decide +kernel
theorem dL_law_508 : decode code 508 = .ok (.iconst 2, 1) := by decide +kernel
theorem dL_law_509 : decode code 509 = .ok (.iadd, 1) := by decide +kernel
theorem dL_law_510 : decode code 510 = .ok (.iaload, 1) := by decide +kernel
theorem dL_law_511 : decode code 511 = .ok (.invokevirtual 77, 3) := by decide +kernel
theorem dL_law_514 : decode code 514 = .ok (.if_icmp .eq 319, 3) := by decide +kernel
theorem ck_L_74 : CkV RL 74 RX6 yX6_ofCell cX6_ofCell 3 (some .int) 2 := ⟨wm_L_74, wim_yX6_ofCell, wse_yX6_ofCell, wi_X6, wc_yX6_ofCell, by decide +kernel⟩
theorem ck_L_77 : CkV RL 77 RX7 yX7_ofCell cX7_ofCell 3 (some .int) 2 := ⟨wm_L_77, wim_yX7_ofCell, wse_yX7_ofCell, wi_X7, wc_yX7_ofCell, by decide +kernel⟩
theorem hc_122 {E : Ev} {a0 p0_0 p0_1 p0_2 p0_3 p0_4 p0_5 : Nat} {n0 : Int32} {a1 : Nat → Nat} {σ1 : N2} {a2 : Nat → Nat} {σ2 : N2} {a3 : Nat → Nat} {σ3 : N2} {a4 : Nat → Nat} {h4 : Nat → Nat → Nat} {n4 : Int32} {η4 : Nat → N2} {o4 : Nat} {a5 : Nat → Nat} {σ5 : N2} {a6 j6 : Nat} {σ6 : N1} {v6 : UInt32} {a7 : Nat} {σ7 : N1} {a8 : Nat → Nat} {σ8 : N2} {v8 : UInt32} : ([0, 1, 2, 3, 4, 5, 6, 7, 8, 9] : List Nat).map (fun i => (wHb a0 p0_0 p0_1 p0_2 p0_3 p0_4 p0_5 n0 ++ (wSt E a1 σ1 ++ (wSt E a2 σ2 ++ (wSt E a3 σ3 ++ (wHs E a4 h4 n4 o4 η4 ++ (wTx E a5 σ5 ++ (wSh a6 j6 σ6 v6 ++ (wWk a7 σ7 ++ wMd E a8 σ8 v8))))))))[i]?) = (wHb a0 p0_0 p0_1 p0_2 p0_3 p0_4 p0_5 n0 ++ wSt E a1 σ1).map some := get_app (is1 := rg 0 1) (is2 := rg 1 9) (by rw [show wHb a0 p0_0 p0_1 p0_2 p0_3 p0_4 p0_5 n0 ++ (wSt E a1 σ1 ++ (wSt E a2 σ2 ++ (wSt E a3 σ3 ++ (wHs E a4 h4 n4 o4 η4 ++ (wTx E a5 σ5 ++ (wSh a6 j6 σ6 v6 ++ (wWk a7 σ7 ++ (wMd E a8 σ8 v8)))))))) = ([] : va_W) ++ (wHb a0 p0_0 p0_1 p0_2 p0_3 p0_4 p0_5 n0 ++ (wSt E a1 σ1 ++ (wSt E a2 σ2 ++ (wSt E a3 σ3 ++ (wHs E a4 h4 n4 o4 η4 ++ (wTx E a5 σ5 ++ (wSh a6 j6 σ6 v6 ++ (wWk a7 σ7 ++ (wMd E a8 σ8 v8))))))))) by simp only [List.append_assoc, List.nil_append, List.append_nil]]; exact get1 (s := 0) (n := 1) rfl rfl) ((by rw [show wHb a0 p0_0 p0_1 p0_2 p0_3 p0_4 p0_5 n0 ++ (wSt E a1 σ1 ++ (wSt E a2 σ2 ++ (wSt E a3 σ3 ++ (wHs E a4 h4 n4 o4 η4 ++ (wTx E a5 σ5 ++ (wSh a6 j6 σ6 v6 ++ (wWk a7 σ7 ++ (wMd E a8 σ8 v8)))))))) = (wHb a0 p0_0 p0_1 p0_2 p0_3 p0_4 p0_5 n0) ++ (wSt E a1 σ1 ++ (wSt E a2 σ2 ++ (wSt E a3 σ3 ++ (wHs E a4 h4 n4 o4 η4 ++ (wTx E a5 σ5 ++ (wSh a6 j6 σ6 v6 ++ (wWk a7 σ7 ++ (wMd E a8 σ8 v8)))))))) by simp only [List.append_assoc, List.nil_append, List.append_nil]]; exact get1 (s := 1) (n := 9) rfl rfl))
theorem ha_122 {E : Ev} {a0 p0_0 p0_1 p0_2 p0_3 p0_4 p0_5 : Nat} {n0 : Int32} {a1 : Nat → Nat} {σ1 : N2} {τ0_0 : Int32} {τ1_0 : N2} : (wHb a0 p0_0 p0_1 p0_2 p0_3 p0_4 p0_5 τ0_0 ++ wSt E a1 τ1_0).map Prod.fst = (wHb a0 p0_0 p0_1 p0_2 p0_3 p0_4 p0_5 n0 ++ wSt E a1 σ1).map Prod.fst := fst_app fst_Hb (fst_St)
theorem hw_122 {E : Ev} {a0 p0_0 p0_1 p0_2 p0_3 p0_4 p0_5 : Nat} {n0 : Int32} {a1 : Nat → Nat} {σ1 : N2} {a2 : Nat → Nat} {σ2 : N2} {a3 : Nat → Nat} {σ3 : N2} {a4 : Nat → Nat} {h4 : Nat → Nat → Nat} {n4 : Int32} {η4 : Nat → N2} {o4 : Nat} {a5 : Nat → Nat} {σ5 : N2} {a6 j6 : Nat} {σ6 : N1} {v6 : UInt32} {a7 : Nat} {σ7 : N1} {a8 : Nat → Nat} {σ8 : N2} {v8 : UInt32} {τ0_0 : Int32} {τ1_0 : N2} : wput (wHb a0 p0_0 p0_1 p0_2 p0_3 p0_4 p0_5 n0 ++ (wSt E a1 σ1 ++ (wSt E a2 σ2 ++ (wSt E a3 σ3 ++ (wHs E a4 h4 n4 o4 η4 ++ (wTx E a5 σ5 ++ (wSh a6 j6 σ6 v6 ++ (wWk a7 σ7 ++ wMd E a8 σ8 v8)))))))) [0, 1, 2, 3, 4, 5, 6, 7, 8, 9] (wHb a0 p0_0 p0_1 p0_2 p0_3 p0_4 p0_5 τ0_0 ++ wSt E a1 τ1_0) = wHb a0 p0_0 p0_1 p0_2 p0_3 p0_4 p0_5 τ0_0 ++ (wSt E a1 τ1_0 ++ (wSt E a2 σ2 ++ (wSt E a3 σ3 ++ (wHs E a4 h4 n4 o4 η4 ++ (wTx E a5 σ5 ++ (wSh a6 j6 σ6 v6 ++ (wWk a7 σ7 ++ wMd E a8 σ8 v8))))))) := by
  show wput (wHb a0 p0_0 p0_1 p0_2 p0_3 p0_4 p0_5 n0 ++ (wSt E a1 σ1 ++ (wSt E a2 σ2 ++ (wSt E a3 σ3 ++ (wHs E a4 h4 n4 o4 η4 ++ (wTx E a5 σ5 ++ (wSh a6 j6 σ6 v6 ++ (wWk a7 σ7 ++ (wMd E a8 σ8 v8))))))))) (rg 0 1 ++ (rg 1 9)) (wHb a0 p0_0 p0_1 p0_2 p0_3 p0_4 p0_5 τ0_0 ++ wSt E a1 τ1_0) = _
  rw [wput_app rfl]
  rw [show wHb a0 p0_0 p0_1 p0_2 p0_3 p0_4 p0_5 n0 ++ (wSt E a1 σ1 ++ (wSt E a2 σ2 ++ (wSt E a3 σ3 ++ (wHs E a4 h4 n4 o4 η4 ++ (wTx E a5 σ5 ++ (wSh a6 j6 σ6 v6 ++ (wWk a7 σ7 ++ (wMd E a8 σ8 v8)))))))) = ([] : va_W) ++ (wHb a0 p0_0 p0_1 p0_2 p0_3 p0_4 p0_5 n0 ++ (wSt E a1 σ1 ++ (wSt E a2 σ2 ++ (wSt E a3 σ3 ++ (wHs E a4 h4 n4 o4 η4 ++ (wTx E a5 σ5 ++ (wSh a6 j6 σ6 v6 ++ (wWk a7 σ7 ++ (wMd E a8 σ8 v8))))))))) by simp only [List.append_assoc, List.nil_append, List.append_nil], put1 (s := 0) (n := 1) rfl rfl rfl]
  rw [show ([] : va_W) ++ (wHb a0 p0_0 p0_1 p0_2 p0_3 p0_4 p0_5 τ0_0 ++ (wSt E a1 σ1 ++ (wSt E a2 σ2 ++ (wSt E a3 σ3 ++ (wHs E a4 h4 n4 o4 η4 ++ (wTx E a5 σ5 ++ (wSh a6 j6 σ6 v6 ++ (wWk a7 σ7 ++ (wMd E a8 σ8 v8))))))))) = (wHb a0 p0_0 p0_1 p0_2 p0_3 p0_4 p0_5 τ0_0) ++ (wSt E a1 σ1 ++ (wSt E a2 σ2 ++ (wSt E a3 σ3 ++ (wHs E a4 h4 n4 o4 η4 ++ (wTx E a5 σ5 ++ (wSh a6 j6 σ6 v6 ++ (wWk a7 σ7 ++ (wMd E a8 σ8 v8)))))))) by simp only [List.append_assoc, List.nil_append, List.append_nil], put1 (s := 1) (n := 9) rfl rfl rfl]
  try simp only [List.append_assoc, List.nil_append, List.append_nil]
set_option maxHeartbeats 4000000 in
set_option maxRecDepth 100000 in
theorem law_ofCell (X : Cx p m meth c code 8 s #[Value.ref b] RL E (lwA s)) (hX : va_X b L xs s s.heap) (hbl : b < s.heap.size) (hL : L ≤ 3072) (hi : i + 6 ≤ L) (R : REL hs σ σn ny o η t μ) (w : Wd E (lwA s) s (wHb h (a1 0) (a2 0) (a3 0) (ah 0) (a5 0) k hs ++ (wSt E a1 σ ++ (wSt E a2 σn ++ (wSt E a3 σr ++ (wHs E ah hh ny o η ++ (wTx E a5 t ++ (wSh k j z sp ++ (wWk j d ++ wMd E am μ sp2)))))))) H locs) (hl : lv_has ls 8 [(3, .int (nI i)), (2, .ref (am 0)), (1, .ref h), (0, .ref b)]) (next : NX p l e s m b below meth c E h k j a1 a2 a3 ah a5 am hh i) : W p l e room_1 s m #[Value.ref b] below meth c H locs 82 1976 (lw_Z below #[Value.ref b] s) (F0 m 486 ls []) := by
  have hx := X.1
  have hb := X.2.1
  have hbA : ¬ lwA s b := lwA_out s b hbl
  refine lv_aload_n hx hb dL_law_486 rfl (lv_at hl 2 rfl) ?_
  refine lv_aload_n hx hb dL_law_487 rfl (lv_at hl 3 rfl) ?_
  refine lv_iload_n hx hb dL_law_488 rfl (lv_at hl 0 rfl) ?_
  refine lv_iconst (v := 1) hx hb dL_law_489 (by decide) ?_
  refine lv_iadd hx hb dL_law_490 ?_
  refine va_sld hx hb hX hbl hbA w.2.2 (sx_ix (k := 1) 1 rfl (by decide) hi hL) dL_law_491 ?_
  refine lv_aload_n hx hb dL_law_492 rfl (lv_at hl 3 rfl) ?_
  refine lv_iload_n hx hb dL_law_493 rfl (lv_at hl 0 rfl) ?_
  refine lv_iconst (v := 2) hx hb dL_law_494 (by decide) ?_
  refine lv_iadd hx hb dL_law_495 ?_
  refine va_sld hx hb hX hbl hbA w.2.2 (sx_ix (k := 2) 2 rfl (by decide) hi hL) dL_law_496 ?_
  refine r_ci w (r_runV (As := [.int (xs ((nI i) + 1).toNatClampNeg), .int (xs ((nI i) + 2).toNatClampNeg)]) (rest := []) X w (kX6_ofCell l E h (a2 0) (a3 0) (ah 0) (a5 0) k hs a1 σ (xs ((nI i) + 1).toNatClampNeg) (xs ((nI i) + 2).toNatClampNeg) ) ck_L_74 ⟨Nat.le_of_ble_eq_true rfl, Nat.le_of_ble_eq_true rfl⟩ [0, 1, 2, 3, 4, 5, 6, 7, 8, 9] (hc_122 (E := E)) (by decide +kernel) (k0 := 0) CL6 rfl hl.1 (Nat.le_of_ble_eq_true rfl) rfl dL_law_497 ⟨Nat.le_of_ble_eq_true rfl, Nat.le_of_ble_eq_true rfl⟩) (wHb h (a1 0) (a2 0) (a3 0) (ah 0) (a5 0) k hs ++ (wSt E a1 σ ++ (wSt E a2 σn ++ (wSt E a3 σr ++ (wHs E ah hh ny o η ++ (wTx E a5 t ++ (wSh k j z sp ++ (wWk j d ++ wMd E am μ sp2)))))))) [0, 1, 2, 3, 4, 5, 6, 7, 8, 9] (hc_122 (E := E)) (by decide +kernel) (ha_122 (E := E)) (hw_122 (E := E)) (fun H locs w => ?_)
  refine lv_aload_n hx hb dL_law_500 rfl (lv_at hl 1 rfl) ?_
  refine lv_aload_n hx hb dL_law_501 rfl (lv_at hl 3 rfl) ?_
  refine lv_iload_n hx hb dL_law_502 rfl (lv_at hl 0 rfl) ?_
  refine lv_iconst (v := 1) hx hb dL_law_503 (by decide) ?_
  refine lv_iadd hx hb dL_law_504 ?_
  refine va_sld hx hb hX hbl hbA w.2.2 (sx_ix (k := 1) 1 rfl (by decide) hi hL) dL_law_505 ?_
  refine lv_aload_n hx hb dL_law_506 rfl (lv_at hl 3 rfl) ?_
  refine lv_iload_n hx hb dL_law_507 rfl (lv_at hl 0 rfl) ?_
  refine lv_iconst (v := 2) hx hb dL_law_508 (by decide) ?_
  refine lv_iadd hx hb dL_law_509 ?_
  refine va_sld hx hb hX hbl hbA w.2.2 (sx_ix (k := 2) 2 rfl (by decide) hi hL) dL_law_510 ?_
  refine r_ci w (r_runV (As := [.int (xs ((nI i) + 1).toNatClampNeg), .int (xs ((nI i) + 2).toNatClampNeg)]) (rest := [.int (fX6_ofCell hs σ (xs ((nI i) + 1).toNatClampNeg) (xs ((nI i) + 2).toNatClampNeg))]) X w (kX7_ofCell l E am μ sp2 (xs ((nI i) + 1).toNatClampNeg) (xs ((nI i) + 2).toNatClampNeg) (REL_gE R)) ck_L_77 ⟨Nat.le_of_ble_eq_true rfl, Nat.le_of_ble_eq_true rfl⟩ [72, 73, 74, 75, 76, 77, 78, 79, 80, 81] (hc_115 (E := E)) (by decide +kernel) (k0 := 0) CL7 rfl hl.1 (Nat.le_of_ble_eq_true rfl) rfl dL_law_511 ⟨Nat.le_of_ble_eq_true rfl, Nat.le_of_ble_eq_true rfl⟩) (wHb h (a1 0) (a2 0) (a3 0) (ah 0) (a5 0) k hs ++ (wSt E a1 σ ++ (wSt E a2 σn ++ (wSt E a3 σr ++ (wHs E ah hh ny o η ++ (wTx E a5 t ++ (wSh k j z sp ++ (wWk j d ++ wMd E am μ sp2)))))))) [72, 73, 74, 75, 76, 77, 78, 79, 80, 81] (hc_115 (E := E)) (by decide +kernel) (ha_115 (E := E)) (hw_115 (E := E)) (fun H locs w => ?_)
  refine lv_icmp_eq (tgt := 833) hx hb dL_law_514 (by decide) (fun _ => ?_) (fun h => absurd (s_ofCell R) h)
  exact next _ _ _ _ _ _ _ _ _ _ _ _ _ _ _ _ R w (lv_sub hl [0, 1, 2, 3] rfl)
theorem dL_law_519 : decode code 519 = .ok (.aload_n 1, 1) := by decide +kernel
theorem dL_law_520 : decode code 520 = .ok (.aload_n 0, 1) := by decide +kernel
theorem dL_law_521 : decode code 521 = .ok (.iload_n 3, 1) := by decide +kernel
theorem dL_law_522 : decode code 522 = .ok (.iconst 1, 1) := by decide +kernel
theorem dL_law_523 : decode code 523 = .ok (.iadd, 1) := by decide +kernel
theorem dL_law_524 : decode code 524 = .ok (.iaload, 1) := by decide +kernel
theorem dL_law_525 : decode code 525 = .ok (.aload_n 0, 1) := by decide +kernel
theorem dL_law_526 : decode code 526 = .ok (.iload_n 3, 1) := by decide +kernel
theorem dL_law_527 : decode code 527 = .ok (.iconst 2, 1) := by decide +kernel
theorem dL_law_528 : decode code 528 = .ok (.iadd, 1) := by decide +kernel
theorem dL_law_529 : decode code 529 = .ok (.iaload, 1) := by decide +kernel
theorem dL_law_530 : decode code 530 = .ok (.invokevirtual 78, 3) := by decide +kernel
theorem dL_law_533 : decode code 533 = .ok (.aload_n 2, 1) := by decide +kernel
theorem dL_law_534 : decode code 534 = .ok (.aload_n 0, 1) := by decide +kernel
theorem dL_law_535 : decode code 535 = .ok (.iload_n 3, 1) := by decide +kernel
theorem dL_law_536 : decode code 536 = .ok (.iconst 1, 1) := by decide +kernel
theorem dL_law_537 : decode code 537 = .ok (.iadd, 1) := by decide +kernel
theorem dL_law_538 : decode code 538 = .ok (.iaload, 1) := by decide +kernel
theorem dL_law_539 : decode code 539 = .ok (.aload_n 0, 1) := by decide +kernel
theorem dL_law_540 : decode code 540 = .ok (.iload_n 3, 1) := by decide +kernel
theorem dL_law_541 : decode code 541 = .ok (.iconst 2, 1) := by decide +kernel
theorem dL_law_542 : decode code 542 = .ok (.iadd, 1) := by decide +kernel
theorem dL_law_543 : decode code 543 = .ok (.iaload, 1) := by decide +kernel
theorem dL_law_544 : decode code 544 = .ok (.invokevirtual 81, 3) := by decide +kernel
theorem dL_law_547 : decode code 547 = .ok (.if_icmp .eq 286, 3) := by decide +kernel
theorem ck_L_78 : CkV RL 78 RX6 yX6_ball cX6_ball 3 (some .int) 2 := ⟨wm_L_78, wim_yX6_ball, wse_yX6_ball, wi_X6, wc_yX6_ball, by decide +kernel⟩
theorem ck_L_81 : CkV RL 81 RX7 yX7_ball cX7_ball 3 (some .int) 2 := ⟨wm_L_81, wim_yX7_ball, wse_yX7_ball, wi_X7, wc_yX7_ball, by decide +kernel⟩
set_option maxHeartbeats 4000000 in
set_option maxRecDepth 100000 in
theorem law_ball (X : Cx p m meth c code 8 s #[Value.ref b] RL E (lwA s)) (hX : va_X b L xs s s.heap) (hbl : b < s.heap.size) (hL : L ≤ 3072) (hi : i + 6 ≤ L) (R : REL hs σ σn ny o η t μ) (w : Wd E (lwA s) s (wHb h (a1 0) (a2 0) (a3 0) (ah 0) (a5 0) k hs ++ (wSt E a1 σ ++ (wSt E a2 σn ++ (wSt E a3 σr ++ (wHs E ah hh ny o η ++ (wTx E a5 t ++ (wSh k j z sp ++ (wWk j d ++ wMd E am μ sp2)))))))) H locs) (hl : lv_has ls 8 [(3, .int (nI i)), (2, .ref (am 0)), (1, .ref h), (0, .ref b)]) (next : NX p l e s m b below meth c E h k j a1 a2 a3 ah a5 am hh i) : W p l e room_1 s m #[Value.ref b] below meth c H locs 82 1976 (lw_Z below #[Value.ref b] s) (F0 m 519 ls []) := by
  have hx := X.1
  have hb := X.2.1
  have hbA : ¬ lwA s b := lwA_out s b hbl
  refine lv_aload_n hx hb dL_law_519 rfl (lv_at hl 2 rfl) ?_
  refine lv_aload_n hx hb dL_law_520 rfl (lv_at hl 3 rfl) ?_
  refine lv_iload_n hx hb dL_law_521 rfl (lv_at hl 0 rfl) ?_
  refine lv_iconst (v := 1) hx hb dL_law_522 (by decide) ?_
  refine lv_iadd hx hb dL_law_523 ?_
  refine va_sld hx hb hX hbl hbA w.2.2 (sx_ix (k := 1) 1 rfl (by decide) hi hL) dL_law_524 ?_
  refine lv_aload_n hx hb dL_law_525 rfl (lv_at hl 3 rfl) ?_
  refine lv_iload_n hx hb dL_law_526 rfl (lv_at hl 0 rfl) ?_
  refine lv_iconst (v := 2) hx hb dL_law_527 (by decide) ?_
  refine lv_iadd hx hb dL_law_528 ?_
  refine va_sld hx hb hX hbl hbA w.2.2 (sx_ix (k := 2) 2 rfl (by decide) hi hL) dL_law_529 ?_
  refine r_ci w (r_runV (As := [.int (xs ((nI i) + 1).toNatClampNeg), .int (xs ((nI i) + 2).toNatClampNeg)]) (rest := []) X w (kX6_ball l E h (a2 0) (a3 0) (ah 0) (a5 0) k hs a1 σ (xs ((nI i) + 1).toNatClampNeg) (xs ((nI i) + 2).toNatClampNeg) ) ck_L_78 ⟨Nat.le_of_ble_eq_true rfl, Nat.le_of_ble_eq_true rfl⟩ [0, 1, 2, 3, 4, 5, 6, 7, 8, 9] (hc_122 (E := E)) (by decide +kernel) (k0 := 0) CL6 rfl hl.1 (Nat.le_of_ble_eq_true rfl) rfl dL_law_530 ⟨Nat.le_of_ble_eq_true rfl, Nat.le_of_ble_eq_true rfl⟩) (wHb h (a1 0) (a2 0) (a3 0) (ah 0) (a5 0) k hs ++ (wSt E a1 σ ++ (wSt E a2 σn ++ (wSt E a3 σr ++ (wHs E ah hh ny o η ++ (wTx E a5 t ++ (wSh k j z sp ++ (wWk j d ++ wMd E am μ sp2)))))))) [0, 1, 2, 3, 4, 5, 6, 7, 8, 9] (hc_122 (E := E)) (by decide +kernel) (ha_122 (E := E)) (hw_122 (E := E)) (fun H locs w => ?_)
  refine lv_aload_n hx hb dL_law_533 rfl (lv_at hl 1 rfl) ?_
  refine lv_aload_n hx hb dL_law_534 rfl (lv_at hl 3 rfl) ?_
  refine lv_iload_n hx hb dL_law_535 rfl (lv_at hl 0 rfl) ?_
  refine lv_iconst (v := 1) hx hb dL_law_536 (by decide) ?_
  refine lv_iadd hx hb dL_law_537 ?_
  refine va_sld hx hb hX hbl hbA w.2.2 (sx_ix (k := 1) 1 rfl (by decide) hi hL) dL_law_538 ?_
  refine lv_aload_n hx hb dL_law_539 rfl (lv_at hl 3 rfl) ?_
  refine lv_iload_n hx hb dL_law_540 rfl (lv_at hl 0 rfl) ?_
  refine lv_iconst (v := 2) hx hb dL_law_541 (by decide) ?_
  refine lv_iadd hx hb dL_law_542 ?_
  refine va_sld hx hb hX hbl hbA w.2.2 (sx_ix (k := 2) 2 rfl (by decide) hi hL) dL_law_543 ?_
  refine r_ci w (r_runV (As := [.int (xs ((nI i) + 1).toNatClampNeg), .int (xs ((nI i) + 2).toNatClampNeg)]) (rest := [.int (fX6_ball hs σ (xs ((nI i) + 1).toNatClampNeg) (xs ((nI i) + 2).toNatClampNeg))]) X w (kX7_ball l E am μ sp2 (xs ((nI i) + 1).toNatClampNeg) (xs ((nI i) + 2).toNatClampNeg) (REL_gE R)) ck_L_81 ⟨Nat.le_of_ble_eq_true rfl, Nat.le_of_ble_eq_true rfl⟩ [72, 73, 74, 75, 76, 77, 78, 79, 80, 81] (hc_115 (E := E)) (by decide +kernel) (k0 := 0) CL7 rfl hl.1 (Nat.le_of_ble_eq_true rfl) rfl dL_law_544 ⟨Nat.le_of_ble_eq_true rfl, Nat.le_of_ble_eq_true rfl⟩) (wHb h (a1 0) (a2 0) (a3 0) (ah 0) (a5 0) k hs ++ (wSt E a1 σ ++ (wSt E a2 σn ++ (wSt E a3 σr ++ (wHs E ah hh ny o η ++ (wTx E a5 t ++ (wSh k j z sp ++ (wWk j d ++ wMd E am μ sp2)))))))) [72, 73, 74, 75, 76, 77, 78, 79, 80, 81] (hc_115 (E := E)) (by decide +kernel) (ha_115 (E := E)) (hw_115 (E := E)) (fun H locs w => ?_)
  refine lv_icmp_eq (tgt := 833) hx hb dL_law_547 (by decide) (fun _ => ?_) (fun h => absurd (s_ball R) h)
  exact next _ _ _ _ _ _ _ _ _ _ _ _ _ _ _ _ R w (lv_sub hl [0, 1, 2, 3] rfl)
theorem dL_law_552 : decode code 552 = .ok (.aload_n 1, 1) := by decide +kernel
theorem dL_law_553 : decode code 553 = .ok (.aload_n 0, 1) := by decide +kernel
theorem dL_law_554 : decode code 554 = .ok (.iload_n 3, 1) := by decide +kernel
theorem dL_law_555 : decode code 555 = .ok (.iconst 1, 1) := by decide +kernel
theorem dL_law_556 : decode code 556 = .ok (.iadd, 1) := by decide +kernel
theorem dL_law_557 : decode code 557 = .ok (.iaload, 1) := by decide +kernel
theorem dL_law_558 : decode code 558 = .ok (.aload_n 0, 1) := by decide +kernel
theorem dL_law_559 : decode code 559 = .ok (.iload_n 3, 1) := by decide +kernel
theorem dL_law_560 : decode code 560 = .ok (.iconst 2, 1) := by decide +kernel
theorem dL_law_561 : decode code 561 = .ok (.iadd, 1) := by decide +kernel
theorem dL_law_562 : decode code 562 = .ok (.iaload, 1) := by decide +kernel
theorem dL_law_563 : decode code 563 = .ok (.aload_n 0, 1) := by decide +kernel
theorem dL_law_564 : decode code 564 = .ok (.iload_n 3, 1) := by decide +kernel
theorem dL_law_565 : decode code 565 = .ok (.iconst 3, 1) := by decide +kernel
theorem dL_law_566 : decode code 566 = .ok (.iadd, 1) := by decide +kernel
theorem dL_law_567 : decode code 567 = .ok (.iaload, 1) := by decide +kernel
theorem dL_law_568 : decode code 568 = .ok (.aload_n 0, 1) := by decide +kernel
theorem dL_law_569 : decode code 569 = .ok (.iload_n 3, 1) := by decide +kernel
theorem dL_law_570 : decode code 570 = .ok (.iconst 4, 1) := by decide +kernel
theorem dL_law_571 : decode code 571 = .ok (.iadd, 1) := by decide +kernel
theorem dL_law_572 : decode code 572 = .ok (.iaload, 1) := by decide +kernel
theorem dL_law_573 : decode code 573 = .ok (.aload_n 0, 1) := by decide +kernel
theorem dL_law_574 : decode code 574 = .ok (.iload_n 3, 1) := by decide +kernel
theorem dL_law_575 : decode code 575 = .ok (.iconst 5, 1) := by decide +kernel
theorem dL_law_576 : decode code 576 = .ok (.iadd, 1) := by decide +kernel
theorem dL_law_577 : decode code 577 = .ok (.iaload, 1) := by decide +kernel
theorem dL_law_578 : decode code 578 = .ok (.invokevirtual 82, 3) := by decide +kernel
theorem dL_law_581 : decode code 581 = .ok (.aload_n 2, 1) := by decide +kernel
theorem dL_law_582 : decode code 582 = .ok (.aload_n 0, 1) := by decide +kernel
theorem dL_law_583 : decode code 583 = .ok (.iload_n 3, 1) := by decide +kernel
theorem dL_law_584 : decode code 584 = .ok (.iconst 1, 1) := by decide +kernel
theorem dL_law_585 : decode code 585 = .ok (.iadd, 1) := by decide +kernel
theorem dL_law_586 : decode code 586 = .ok (.iaload, 1) := by decide +kernel
theorem dL_law_587 : decode code 587 = .ok (.aload_n 0, 1) := by decide +kernel
theorem dL_law_588 : decode code 588 = .ok (.iload_n 3, 1) := by decide +kernel
theorem dL_law_589 : decode code 589 = .ok (.iconst 2, 1) := by decide +kernel
theorem dL_law_590 : decode code 590 = .ok (.iadd, 1) := by decide +kernel
theorem dL_law_591 : decode code 591 = .ok (.iaload, 1) := by decide +kernel
theorem dL_law_592 : decode code 592 = .ok (.aload_n 0, 1) := by decide +kernel
theorem dL_law_593 : decode code 593 = .ok (.iload_n 3, 1) := by decide +kernel
theorem dL_law_594 : decode code 594 = .ok (.iconst 3, 1) := by decide +kernel
theorem dL_law_595 : decode code 595 = .ok (.iadd, 1) := by decide +kernel
theorem dL_law_596 : decode code 596 = .ok (.iaload, 1) := by decide +kernel
theorem dL_law_597 : decode code 597 = .ok (.aload_n 0, 1) := by decide +kernel
theorem dL_law_598 : decode code 598 = .ok (.iload_n 3, 1) := by decide +kernel
theorem dL_law_599 : decode code 599 = .ok (.iconst 4, 1) := by decide +kernel
theorem dL_law_600 : decode code 600 = .ok (.iadd, 1) := by decide +kernel
theorem dL_law_601 : decode code 601 = .ok (.iaload, 1) := by decide +kernel
theorem dL_law_602 : decode code 602 = .ok (.aload_n 0, 1) := by decide +kernel
theorem dL_law_603 : decode code 603 = .ok (.iload_n 3, 1) := by decide +kernel
theorem dL_law_604 : decode code 604 = .ok (.iconst 5, 1) := by decide +kernel
theorem dL_law_605 : decode code 605 = .ok (.iadd, 1) := by decide +kernel
theorem dL_law_606 : decode code 606 = .ok (.iaload, 1) := by decide +kernel
theorem dL_law_607 : decode code 607 = .ok (.invokevirtual 85, 3) := by decide +kernel
theorem dL_law_610 : decode code 610 = .ok (.if_icmp .eq 223, 3) := by decide +kernel
theorem ck_L_82 : CkV RL 82 RX6 yX6_would cX6_would 6 (some .int) 5 := ⟨wm_L_82, wim_yX6_would, wse_yX6_would, wi_X6, wc_yX6_would, by decide +kernel⟩
theorem ck_L_85 : CkV RL 85 RX7 yX7_would cX7_would 8 (some .int) 5 := ⟨wm_L_85, wim_yX7_would, wse_yX7_would, wi_X7, wc_yX7_would, by decide +kernel⟩
theorem hc_123 {E : Ev} {a0 p0_0 p0_1 p0_2 p0_3 p0_4 p0_5 : Nat} {n0 : Int32} {a1 : Nat → Nat} {σ1 : N2} {a2 : Nat → Nat} {σ2 : N2} {a3 : Nat → Nat} {σ3 : N2} {a4 : Nat → Nat} {h4 : Nat → Nat → Nat} {n4 : Int32} {η4 : Nat → N2} {o4 : Nat} {a5 : Nat → Nat} {σ5 : N2} {a6 j6 : Nat} {σ6 : N1} {v6 : UInt32} {a7 : Nat} {σ7 : N1} {a8 : Nat → Nat} {σ8 : N2} {v8 : UInt32} : ([0, 1, 2, 3, 4, 5, 6, 7, 8, 9, 19, 20, 21, 22, 23, 24, 25, 26, 27, 70, 71] : List Nat).map (fun i => (wHb a0 p0_0 p0_1 p0_2 p0_3 p0_4 p0_5 n0 ++ (wSt E a1 σ1 ++ (wSt E a2 σ2 ++ (wSt E a3 σ3 ++ (wHs E a4 h4 n4 o4 η4 ++ (wTx E a5 σ5 ++ (wSh a6 j6 σ6 v6 ++ (wWk a7 σ7 ++ wMd E a8 σ8 v8))))))))[i]?) = (wHb a0 p0_0 p0_1 p0_2 p0_3 p0_4 p0_5 n0 ++ (wSt E a1 σ1 ++ (wSt E a3 σ3 ++ (wSh a6 j6 σ6 v6 ++ wWk a7 σ7)))).map some := get_app (is1 := rg 0 1) (is2 := rg 1 9 ++ (rg 19 9 ++ (rg 70 1 ++ (rg 71 1)))) (by rw [show wHb a0 p0_0 p0_1 p0_2 p0_3 p0_4 p0_5 n0 ++ (wSt E a1 σ1 ++ (wSt E a2 σ2 ++ (wSt E a3 σ3 ++ (wHs E a4 h4 n4 o4 η4 ++ (wTx E a5 σ5 ++ (wSh a6 j6 σ6 v6 ++ (wWk a7 σ7 ++ (wMd E a8 σ8 v8)))))))) = ([] : va_W) ++ (wHb a0 p0_0 p0_1 p0_2 p0_3 p0_4 p0_5 n0 ++ (wSt E a1 σ1 ++ (wSt E a2 σ2 ++ (wSt E a3 σ3 ++ (wHs E a4 h4 n4 o4 η4 ++ (wTx E a5 σ5 ++ (wSh a6 j6 σ6 v6 ++ (wWk a7 σ7 ++ (wMd E a8 σ8 v8))))))))) by simp only [List.append_assoc, List.nil_append, List.append_nil]]; exact get1 (s := 0) (n := 1) rfl rfl) (get_app (is1 := rg 1 9) (is2 := rg 19 9 ++ (rg 70 1 ++ (rg 71 1))) (by rw [show wHb a0 p0_0 p0_1 p0_2 p0_3 p0_4 p0_5 n0 ++ (wSt E a1 σ1 ++ (wSt E a2 σ2 ++ (wSt E a3 σ3 ++ (wHs E a4 h4 n4 o4 η4 ++ (wTx E a5 σ5 ++ (wSh a6 j6 σ6 v6 ++ (wWk a7 σ7 ++ (wMd E a8 σ8 v8)))))))) = (wHb a0 p0_0 p0_1 p0_2 p0_3 p0_4 p0_5 n0) ++ (wSt E a1 σ1 ++ (wSt E a2 σ2 ++ (wSt E a3 σ3 ++ (wHs E a4 h4 n4 o4 η4 ++ (wTx E a5 σ5 ++ (wSh a6 j6 σ6 v6 ++ (wWk a7 σ7 ++ (wMd E a8 σ8 v8)))))))) by simp only [List.append_assoc, List.nil_append, List.append_nil]]; exact get1 (s := 1) (n := 9) rfl rfl) (get_app (is1 := rg 19 9) (is2 := rg 70 1 ++ (rg 71 1)) (by rw [show wHb a0 p0_0 p0_1 p0_2 p0_3 p0_4 p0_5 n0 ++ (wSt E a1 σ1 ++ (wSt E a2 σ2 ++ (wSt E a3 σ3 ++ (wHs E a4 h4 n4 o4 η4 ++ (wTx E a5 σ5 ++ (wSh a6 j6 σ6 v6 ++ (wWk a7 σ7 ++ (wMd E a8 σ8 v8)))))))) = (wHb a0 p0_0 p0_1 p0_2 p0_3 p0_4 p0_5 n0 ++ (wSt E a1 σ1 ++ (wSt E a2 σ2))) ++ (wSt E a3 σ3 ++ (wHs E a4 h4 n4 o4 η4 ++ (wTx E a5 σ5 ++ (wSh a6 j6 σ6 v6 ++ (wWk a7 σ7 ++ (wMd E a8 σ8 v8)))))) by simp only [List.append_assoc, List.nil_append, List.append_nil]]; exact get1 (s := 19) (n := 9) rfl rfl) (get_app (is1 := rg 70 1) (is2 := rg 71 1) (by rw [show wHb a0 p0_0 p0_1 p0_2 p0_3 p0_4 p0_5 n0 ++ (wSt E a1 σ1 ++ (wSt E a2 σ2 ++ (wSt E a3 σ3 ++ (wHs E a4 h4 n4 o4 η4 ++ (wTx E a5 σ5 ++ (wSh a6 j6 σ6 v6 ++ (wWk a7 σ7 ++ (wMd E a8 σ8 v8)))))))) = (wHb a0 p0_0 p0_1 p0_2 p0_3 p0_4 p0_5 n0 ++ (wSt E a1 σ1 ++ (wSt E a2 σ2 ++ (wSt E a3 σ3 ++ (wHs E a4 h4 n4 o4 η4 ++ (wTx E a5 σ5)))))) ++ (wSh a6 j6 σ6 v6 ++ (wWk a7 σ7 ++ (wMd E a8 σ8 v8))) by simp only [List.append_assoc, List.nil_append, List.append_nil]]; exact get1 (s := 70) (n := 1) rfl rfl) ((by rw [show wHb a0 p0_0 p0_1 p0_2 p0_3 p0_4 p0_5 n0 ++ (wSt E a1 σ1 ++ (wSt E a2 σ2 ++ (wSt E a3 σ3 ++ (wHs E a4 h4 n4 o4 η4 ++ (wTx E a5 σ5 ++ (wSh a6 j6 σ6 v6 ++ (wWk a7 σ7 ++ (wMd E a8 σ8 v8)))))))) = (wHb a0 p0_0 p0_1 p0_2 p0_3 p0_4 p0_5 n0 ++ (wSt E a1 σ1 ++ (wSt E a2 σ2 ++ (wSt E a3 σ3 ++ (wHs E a4 h4 n4 o4 η4 ++ (wTx E a5 σ5 ++ (wSh a6 j6 σ6 v6))))))) ++ (wWk a7 σ7 ++ (wMd E a8 σ8 v8)) by simp only [List.append_assoc, List.nil_append, List.append_nil]]; exact get1 (s := 71) (n := 1) rfl rfl)))))
theorem ha_123 {E : Ev} {a0 p0_0 p0_1 p0_2 p0_3 p0_4 p0_5 : Nat} {n0 : Int32} {a1 : Nat → Nat} {σ1 : N2} {a3 : Nat → Nat} {σ3 : N2} {a6 j6 : Nat} {σ6 : N1} {v6 : UInt32} {a7 : Nat} {σ7 : N1} {τ0_0 : Int32} {τ1_0 : N2} {τ2_0 : N2} {τ3_0 : N1} {τ3_1 : UInt32} {τ4_0 : N1} : (wHb a0 p0_0 p0_1 p0_2 p0_3 p0_4 p0_5 τ0_0 ++ (wSt E a1 τ1_0 ++ (wSt E a3 τ2_0 ++ (wSh a6 j6 τ3_0 τ3_1 ++ wWk a7 τ4_0)))).map Prod.fst = (wHb a0 p0_0 p0_1 p0_2 p0_3 p0_4 p0_5 n0 ++ (wSt E a1 σ1 ++ (wSt E a3 σ3 ++ (wSh a6 j6 σ6 v6 ++ wWk a7 σ7)))).map Prod.fst := fst_app fst_Hb (fst_app fst_St (fst_app fst_St (fst_app fst_Sh (fst_Wk))))
theorem hw_123 {E : Ev} {a0 p0_0 p0_1 p0_2 p0_3 p0_4 p0_5 : Nat} {n0 : Int32} {a1 : Nat → Nat} {σ1 : N2} {a2 : Nat → Nat} {σ2 : N2} {a3 : Nat → Nat} {σ3 : N2} {a4 : Nat → Nat} {h4 : Nat → Nat → Nat} {n4 : Int32} {η4 : Nat → N2} {o4 : Nat} {a5 : Nat → Nat} {σ5 : N2} {a6 j6 : Nat} {σ6 : N1} {v6 : UInt32} {a7 : Nat} {σ7 : N1} {a8 : Nat → Nat} {σ8 : N2} {v8 : UInt32} {τ0_0 : Int32} {τ1_0 : N2} {τ2_0 : N2} {τ3_0 : N1} {τ3_1 : UInt32} {τ4_0 : N1} : wput (wHb a0 p0_0 p0_1 p0_2 p0_3 p0_4 p0_5 n0 ++ (wSt E a1 σ1 ++ (wSt E a2 σ2 ++ (wSt E a3 σ3 ++ (wHs E a4 h4 n4 o4 η4 ++ (wTx E a5 σ5 ++ (wSh a6 j6 σ6 v6 ++ (wWk a7 σ7 ++ wMd E a8 σ8 v8)))))))) [0, 1, 2, 3, 4, 5, 6, 7, 8, 9, 19, 20, 21, 22, 23, 24, 25, 26, 27, 70, 71] (wHb a0 p0_0 p0_1 p0_2 p0_3 p0_4 p0_5 τ0_0 ++ (wSt E a1 τ1_0 ++ (wSt E a3 τ2_0 ++ (wSh a6 j6 τ3_0 τ3_1 ++ wWk a7 τ4_0)))) = wHb a0 p0_0 p0_1 p0_2 p0_3 p0_4 p0_5 τ0_0 ++ (wSt E a1 τ1_0 ++ (wSt E a2 σ2 ++ (wSt E a3 τ2_0 ++ (wHs E a4 h4 n4 o4 η4 ++ (wTx E a5 σ5 ++ (wSh a6 j6 τ3_0 τ3_1 ++ (wWk a7 τ4_0 ++ wMd E a8 σ8 v8))))))) := by
  show wput (wHb a0 p0_0 p0_1 p0_2 p0_3 p0_4 p0_5 n0 ++ (wSt E a1 σ1 ++ (wSt E a2 σ2 ++ (wSt E a3 σ3 ++ (wHs E a4 h4 n4 o4 η4 ++ (wTx E a5 σ5 ++ (wSh a6 j6 σ6 v6 ++ (wWk a7 σ7 ++ (wMd E a8 σ8 v8))))))))) (rg 0 1 ++ (rg 1 9 ++ (rg 19 9 ++ (rg 70 1 ++ (rg 71 1))))) (wHb a0 p0_0 p0_1 p0_2 p0_3 p0_4 p0_5 τ0_0 ++ (wSt E a1 τ1_0 ++ (wSt E a3 τ2_0 ++ (wSh a6 j6 τ3_0 τ3_1 ++ wWk a7 τ4_0)))) = _
  rw [wput_app rfl]
  rw [show wHb a0 p0_0 p0_1 p0_2 p0_3 p0_4 p0_5 n0 ++ (wSt E a1 σ1 ++ (wSt E a2 σ2 ++ (wSt E a3 σ3 ++ (wHs E a4 h4 n4 o4 η4 ++ (wTx E a5 σ5 ++ (wSh a6 j6 σ6 v6 ++ (wWk a7 σ7 ++ (wMd E a8 σ8 v8)))))))) = ([] : va_W) ++ (wHb a0 p0_0 p0_1 p0_2 p0_3 p0_4 p0_5 n0 ++ (wSt E a1 σ1 ++ (wSt E a2 σ2 ++ (wSt E a3 σ3 ++ (wHs E a4 h4 n4 o4 η4 ++ (wTx E a5 σ5 ++ (wSh a6 j6 σ6 v6 ++ (wWk a7 σ7 ++ (wMd E a8 σ8 v8))))))))) by simp only [List.append_assoc, List.nil_append, List.append_nil], put1 (s := 0) (n := 1) rfl rfl rfl]
  rw [wput_app rfl]
  rw [show ([] : va_W) ++ (wHb a0 p0_0 p0_1 p0_2 p0_3 p0_4 p0_5 τ0_0 ++ (wSt E a1 σ1 ++ (wSt E a2 σ2 ++ (wSt E a3 σ3 ++ (wHs E a4 h4 n4 o4 η4 ++ (wTx E a5 σ5 ++ (wSh a6 j6 σ6 v6 ++ (wWk a7 σ7 ++ (wMd E a8 σ8 v8))))))))) = (wHb a0 p0_0 p0_1 p0_2 p0_3 p0_4 p0_5 τ0_0) ++ (wSt E a1 σ1 ++ (wSt E a2 σ2 ++ (wSt E a3 σ3 ++ (wHs E a4 h4 n4 o4 η4 ++ (wTx E a5 σ5 ++ (wSh a6 j6 σ6 v6 ++ (wWk a7 σ7 ++ (wMd E a8 σ8 v8)))))))) by simp only [List.append_assoc, List.nil_append, List.append_nil], put1 (s := 1) (n := 9) rfl rfl rfl]
  rw [wput_app rfl]
  rw [show (wHb a0 p0_0 p0_1 p0_2 p0_3 p0_4 p0_5 τ0_0) ++ (wSt E a1 τ1_0 ++ (wSt E a2 σ2 ++ (wSt E a3 σ3 ++ (wHs E a4 h4 n4 o4 η4 ++ (wTx E a5 σ5 ++ (wSh a6 j6 σ6 v6 ++ (wWk a7 σ7 ++ (wMd E a8 σ8 v8)))))))) = (wHb a0 p0_0 p0_1 p0_2 p0_3 p0_4 p0_5 τ0_0 ++ (wSt E a1 τ1_0 ++ (wSt E a2 σ2))) ++ (wSt E a3 σ3 ++ (wHs E a4 h4 n4 o4 η4 ++ (wTx E a5 σ5 ++ (wSh a6 j6 σ6 v6 ++ (wWk a7 σ7 ++ (wMd E a8 σ8 v8)))))) by simp only [List.append_assoc, List.nil_append, List.append_nil], put1 (s := 19) (n := 9) rfl rfl rfl]
  rw [wput_app rfl]
  rw [show (wHb a0 p0_0 p0_1 p0_2 p0_3 p0_4 p0_5 τ0_0 ++ (wSt E a1 τ1_0 ++ (wSt E a2 σ2))) ++ (wSt E a3 τ2_0 ++ (wHs E a4 h4 n4 o4 η4 ++ (wTx E a5 σ5 ++ (wSh a6 j6 σ6 v6 ++ (wWk a7 σ7 ++ (wMd E a8 σ8 v8)))))) = (wHb a0 p0_0 p0_1 p0_2 p0_3 p0_4 p0_5 τ0_0 ++ (wSt E a1 τ1_0 ++ (wSt E a2 σ2 ++ (wSt E a3 τ2_0 ++ (wHs E a4 h4 n4 o4 η4 ++ (wTx E a5 σ5)))))) ++ (wSh a6 j6 σ6 v6 ++ (wWk a7 σ7 ++ (wMd E a8 σ8 v8))) by simp only [List.append_assoc, List.nil_append, List.append_nil], put1 (s := 70) (n := 1) rfl rfl rfl]
  rw [show (wHb a0 p0_0 p0_1 p0_2 p0_3 p0_4 p0_5 τ0_0 ++ (wSt E a1 τ1_0 ++ (wSt E a2 σ2 ++ (wSt E a3 τ2_0 ++ (wHs E a4 h4 n4 o4 η4 ++ (wTx E a5 σ5)))))) ++ (wSh a6 j6 τ3_0 τ3_1 ++ (wWk a7 σ7 ++ (wMd E a8 σ8 v8))) = (wHb a0 p0_0 p0_1 p0_2 p0_3 p0_4 p0_5 τ0_0 ++ (wSt E a1 τ1_0 ++ (wSt E a2 σ2 ++ (wSt E a3 τ2_0 ++ (wHs E a4 h4 n4 o4 η4 ++ (wTx E a5 σ5 ++ (wSh a6 j6 τ3_0 τ3_1))))))) ++ (wWk a7 σ7 ++ (wMd E a8 σ8 v8)) by simp only [List.append_assoc, List.nil_append, List.append_nil], put1 (s := 71) (n := 1) rfl rfl rfl]
  try simp only [List.append_assoc, List.nil_append, List.append_nil]
set_option maxHeartbeats 4000000 in
set_option maxRecDepth 100000 in
theorem law_would (X : Cx p m meth c code 8 s #[Value.ref b] RL E (lwA s)) (hX : va_X b L xs s s.heap) (hbl : b < s.heap.size) (hL : L ≤ 3072) (hi : i + 6 ≤ L) (R : REL hs σ σn ny o η t μ) (w : Wd E (lwA s) s (wHb h (a1 0) (a2 0) (a3 0) (ah 0) (a5 0) k hs ++ (wSt E a1 σ ++ (wSt E a2 σn ++ (wSt E a3 σr ++ (wHs E ah hh ny o η ++ (wTx E a5 t ++ (wSh k j z sp ++ (wWk j d ++ wMd E am μ sp2)))))))) H locs) (hl : lv_has ls 8 [(3, .int (nI i)), (2, .ref (am 0)), (1, .ref h), (0, .ref b)]) (next : NX p l e s m b below meth c E h k j a1 a2 a3 ah a5 am hh i) : W p l e room_1 s m #[Value.ref b] below meth c H locs 82 1976 (lw_Z below #[Value.ref b] s) (F0 m 552 ls []) := by
  have hx := X.1
  have hb := X.2.1
  have hbA : ¬ lwA s b := lwA_out s b hbl
  refine lv_aload_n hx hb dL_law_552 rfl (lv_at hl 2 rfl) ?_
  refine lv_aload_n hx hb dL_law_553 rfl (lv_at hl 3 rfl) ?_
  refine lv_iload_n hx hb dL_law_554 rfl (lv_at hl 0 rfl) ?_
  refine lv_iconst (v := 1) hx hb dL_law_555 (by decide) ?_
  refine lv_iadd hx hb dL_law_556 ?_
  refine va_sld hx hb hX hbl hbA w.2.2 (sx_ix (k := 1) 1 rfl (by decide) hi hL) dL_law_557 ?_
  refine lv_aload_n hx hb dL_law_558 rfl (lv_at hl 3 rfl) ?_
  refine lv_iload_n hx hb dL_law_559 rfl (lv_at hl 0 rfl) ?_
  refine lv_iconst (v := 2) hx hb dL_law_560 (by decide) ?_
  refine lv_iadd hx hb dL_law_561 ?_
  refine va_sld hx hb hX hbl hbA w.2.2 (sx_ix (k := 2) 2 rfl (by decide) hi hL) dL_law_562 ?_
  refine lv_aload_n hx hb dL_law_563 rfl (lv_at hl 3 rfl) ?_
  refine lv_iload_n hx hb dL_law_564 rfl (lv_at hl 0 rfl) ?_
  refine lv_iconst (v := 3) hx hb dL_law_565 (by decide) ?_
  refine lv_iadd hx hb dL_law_566 ?_
  refine va_sld hx hb hX hbl hbA w.2.2 (sx_ix (k := 3) 3 rfl (by decide) hi hL) dL_law_567 ?_
  refine lv_aload_n hx hb dL_law_568 rfl (lv_at hl 3 rfl) ?_
  refine lv_iload_n hx hb dL_law_569 rfl (lv_at hl 0 rfl) ?_
  refine lv_iconst (v := 4) hx hb dL_law_570 (by decide) ?_
  refine lv_iadd hx hb dL_law_571 ?_
  refine va_sld hx hb hX hbl hbA w.2.2 (sx_ix (k := 4) 4 rfl (by decide) hi hL) dL_law_572 ?_
  refine lv_aload_n hx hb dL_law_573 rfl (lv_at hl 3 rfl) ?_
  refine lv_iload_n hx hb dL_law_574 rfl (lv_at hl 0 rfl) ?_
  refine lv_iconst (v := 5) hx hb dL_law_575 (by decide) ?_
  refine lv_iadd hx hb dL_law_576 ?_
  refine va_sld hx hb hX hbl hbA w.2.2 (sx_ix (k := 5) 5 rfl (by decide) hi hL) dL_law_577 ?_
  refine r_ci w (r_runV (As := [.int (xs ((nI i) + 1).toNatClampNeg), .int (xs ((nI i) + 2).toNatClampNeg), .int (xs ((nI i) + 3).toNatClampNeg), .int (xs ((nI i) + 4).toNatClampNeg), .int (xs ((nI i) + 5).toNatClampNeg)]) (rest := []) X w (kX6_would l E h (a2 0) (ah 0) (a5 0) k hs a1 σ a3 σr j z sp d (xs ((nI i) + 1).toNatClampNeg) (xs ((nI i) + 2).toNatClampNeg) (xs ((nI i) + 3).toNatClampNeg) (xs ((nI i) + 4).toNatClampNeg) (xs ((nI i) + 5).toNatClampNeg) (REL_gs R)) ck_L_82 ⟨Nat.le_of_ble_eq_true rfl, Nat.le_of_ble_eq_true rfl⟩ [0, 1, 2, 3, 4, 5, 6, 7, 8, 9, 19, 20, 21, 22, 23, 24, 25, 26, 27, 70, 71] (hc_123 (E := E)) (by decide +kernel) (k0 := 0) CL6 rfl hl.1 (Nat.le_of_ble_eq_true rfl) rfl dL_law_578 ⟨Nat.le_of_ble_eq_true rfl, Nat.le_of_ble_eq_true rfl⟩) (wHb h (a1 0) (a2 0) (a3 0) (ah 0) (a5 0) k hs ++ (wSt E a1 σ ++ (wSt E a2 σn ++ (wSt E a3 ((fX6_would hs σ σr z sp d (xs ((nI i) + 1).toNatClampNeg) (xs ((nI i) + 2).toNatClampNeg) (xs ((nI i) + 3).toNatClampNeg) (xs ((nI i) + 4).toNatClampNeg) (xs ((nI i) + 5).toNatClampNeg)).2.1) ++ (wHs E ah hh ny o η ++ (wTx E a5 t ++ (wSh k j ((fX6_would hs σ σr z sp d (xs ((nI i) + 1).toNatClampNeg) (xs ((nI i) + 2).toNatClampNeg) (xs ((nI i) + 3).toNatClampNeg) (xs ((nI i) + 4).toNatClampNeg) (xs ((nI i) + 5).toNatClampNeg)).2.2.1) ((fX6_would hs σ σr z sp d (xs ((nI i) + 1).toNatClampNeg) (xs ((nI i) + 2).toNatClampNeg) (xs ((nI i) + 3).toNatClampNeg) (xs ((nI i) + 4).toNatClampNeg) (xs ((nI i) + 5).toNatClampNeg)).2.2.2.1) ++ (wWk j ((fX6_would hs σ σr z sp d (xs ((nI i) + 1).toNatClampNeg) (xs ((nI i) + 2).toNatClampNeg) (xs ((nI i) + 3).toNatClampNeg) (xs ((nI i) + 4).toNatClampNeg) (xs ((nI i) + 5).toNatClampNeg)).2.2.2.2) ++ wMd E am μ sp2)))))))) [0, 1, 2, 3, 4, 5, 6, 7, 8, 9, 19, 20, 21, 22, 23, 24, 25, 26, 27, 70, 71] (hc_123 (E := E)) (by decide +kernel) (ha_123 (E := E)) (hw_123 (E := E)) (fun H locs w => ?_)
  refine lv_aload_n hx hb dL_law_581 rfl (lv_at hl 1 rfl) ?_
  refine lv_aload_n hx hb dL_law_582 rfl (lv_at hl 3 rfl) ?_
  refine lv_iload_n hx hb dL_law_583 rfl (lv_at hl 0 rfl) ?_
  refine lv_iconst (v := 1) hx hb dL_law_584 (by decide) ?_
  refine lv_iadd hx hb dL_law_585 ?_
  refine va_sld hx hb hX hbl hbA w.2.2 (sx_ix (k := 1) 1 rfl (by decide) hi hL) dL_law_586 ?_
  refine lv_aload_n hx hb dL_law_587 rfl (lv_at hl 3 rfl) ?_
  refine lv_iload_n hx hb dL_law_588 rfl (lv_at hl 0 rfl) ?_
  refine lv_iconst (v := 2) hx hb dL_law_589 (by decide) ?_
  refine lv_iadd hx hb dL_law_590 ?_
  refine va_sld hx hb hX hbl hbA w.2.2 (sx_ix (k := 2) 2 rfl (by decide) hi hL) dL_law_591 ?_
  refine lv_aload_n hx hb dL_law_592 rfl (lv_at hl 3 rfl) ?_
  refine lv_iload_n hx hb dL_law_593 rfl (lv_at hl 0 rfl) ?_
  refine lv_iconst (v := 3) hx hb dL_law_594 (by decide) ?_
  refine lv_iadd hx hb dL_law_595 ?_
  refine va_sld hx hb hX hbl hbA w.2.2 (sx_ix (k := 3) 3 rfl (by decide) hi hL) dL_law_596 ?_
  refine lv_aload_n hx hb dL_law_597 rfl (lv_at hl 3 rfl) ?_
  refine lv_iload_n hx hb dL_law_598 rfl (lv_at hl 0 rfl) ?_
  refine lv_iconst (v := 4) hx hb dL_law_599 (by decide) ?_
  refine lv_iadd hx hb dL_law_600 ?_
  refine va_sld hx hb hX hbl hbA w.2.2 (sx_ix (k := 4) 4 rfl (by decide) hi hL) dL_law_601 ?_
  refine lv_aload_n hx hb dL_law_602 rfl (lv_at hl 3 rfl) ?_
  refine lv_iload_n hx hb dL_law_603 rfl (lv_at hl 0 rfl) ?_
  refine lv_iconst (v := 5) hx hb dL_law_604 (by decide) ?_
  refine lv_iadd hx hb dL_law_605 ?_
  refine va_sld hx hb hX hbl hbA w.2.2 (sx_ix (k := 5) 5 rfl (by decide) hi hL) dL_law_606 ?_
  refine r_ci w (r_runV (As := [.int (xs ((nI i) + 1).toNatClampNeg), .int (xs ((nI i) + 2).toNatClampNeg), .int (xs ((nI i) + 3).toNatClampNeg), .int (xs ((nI i) + 4).toNatClampNeg), .int (xs ((nI i) + 5).toNatClampNeg)]) (rest := [.int ((fX6_would hs σ σr z sp d (xs ((nI i) + 1).toNatClampNeg) (xs ((nI i) + 2).toNatClampNeg) (xs ((nI i) + 3).toNatClampNeg) (xs ((nI i) + 4).toNatClampNeg) (xs ((nI i) + 5).toNatClampNeg)).1)]) X w (kX7_would l E am μ sp2 (xs ((nI i) + 1).toNatClampNeg) (xs ((nI i) + 2).toNatClampNeg) (xs ((nI i) + 3).toNatClampNeg) (xs ((nI i) + 4).toNatClampNeg) (xs ((nI i) + 5).toNatClampNeg) (REL_gE R) (REL_gA R) (REL_gTab R)) ck_L_85 ⟨Nat.le_of_ble_eq_true rfl, Nat.le_of_ble_eq_true rfl⟩ [72, 73, 74, 75, 76, 77, 78, 79, 80, 81] (hc_115 (E := E)) (by decide +kernel) (k0 := 0) CL7 rfl hl.1 (Nat.le_of_ble_eq_true rfl) rfl dL_law_607 ⟨Nat.le_of_ble_eq_true rfl, Nat.le_of_ble_eq_true rfl⟩) (wHb h (a1 0) (a2 0) (a3 0) (ah 0) (a5 0) k hs ++ (wSt E a1 σ ++ (wSt E a2 σn ++ (wSt E a3 ((fX6_would hs σ σr z sp d (xs ((nI i) + 1).toNatClampNeg) (xs ((nI i) + 2).toNatClampNeg) (xs ((nI i) + 3).toNatClampNeg) (xs ((nI i) + 4).toNatClampNeg) (xs ((nI i) + 5).toNatClampNeg)).2.1) ++ (wHs E ah hh ny o η ++ (wTx E a5 t ++ (wSh k j ((fX6_would hs σ σr z sp d (xs ((nI i) + 1).toNatClampNeg) (xs ((nI i) + 2).toNatClampNeg) (xs ((nI i) + 3).toNatClampNeg) (xs ((nI i) + 4).toNatClampNeg) (xs ((nI i) + 5).toNatClampNeg)).2.2.1) ((fX6_would hs σ σr z sp d (xs ((nI i) + 1).toNatClampNeg) (xs ((nI i) + 2).toNatClampNeg) (xs ((nI i) + 3).toNatClampNeg) (xs ((nI i) + 4).toNatClampNeg) (xs ((nI i) + 5).toNatClampNeg)).2.2.2.1) ++ (wWk j ((fX6_would hs σ σr z sp d (xs ((nI i) + 1).toNatClampNeg) (xs ((nI i) + 2).toNatClampNeg) (xs ((nI i) + 3).toNatClampNeg) (xs ((nI i) + 4).toNatClampNeg) (xs ((nI i) + 5).toNatClampNeg)).2.2.2.2) ++ wMd E am ((fX7_would μ sp2 (xs ((nI i) + 1).toNatClampNeg) (xs ((nI i) + 2).toNatClampNeg) (xs ((nI i) + 3).toNatClampNeg) (xs ((nI i) + 4).toNatClampNeg) (xs ((nI i) + 5).toNatClampNeg)).2.1) ((fX7_would μ sp2 (xs ((nI i) + 1).toNatClampNeg) (xs ((nI i) + 2).toNatClampNeg) (xs ((nI i) + 3).toNatClampNeg) (xs ((nI i) + 4).toNatClampNeg) (xs ((nI i) + 5).toNatClampNeg)).2.2))))))))) [72, 73, 74, 75, 76, 77, 78, 79, 80, 81] (hc_115 (E := E)) (by decide +kernel) (ha_115 (E := E)) (hw_115 (E := E)) (fun H locs w => ?_)
  refine lv_icmp_eq (tgt := 833) hx hb dL_law_610 (by decide) (fun _ => ?_) (fun h => absurd (s_would R).1 h)
  exact next _ _ _ _ _ _ _ _ _ _ _ _ _ _ _ _ (s_would (σr := σr) (z := z) (d := d) (sp2 := sp) R).2 w (lv_sub hl [0, 1, 2, 3] rfl)
theorem dL_law_615 : decode code 615 = .ok (.aload_n 1, 1) := by decide +kernel
theorem dL_law_616 : decode code 616 = .ok (.aload_n 0, 1) := by decide +kernel
theorem dL_law_617 : decode code 617 = .ok (.iload_n 3, 1) := by decide +kernel
theorem dL_law_618 : decode code 618 = .ok (.iconst 1, 1) := by decide +kernel
theorem dL_law_619 : decode code 619 = .ok (.iadd, 1) := by decide +kernel
theorem dL_law_620 : decode code 620 = .ok (.iaload, 1) := by decide +kernel
theorem dL_law_621 : decode code 621 = .ok (.aload_n 0, 1) := by decide +kernel
theorem dL_law_622 : decode code 622 = .ok (.iload_n 3, 1) := by decide +kernel
theorem dL_law_623 : decode code 623 = .ok (.iconst 2, 1) := by decide +kernel
theorem dL_law_624 : decode code 624 = .ok (.iadd, 1) := by decide +kernel
theorem dL_law_625 : decode code 625 = .ok (.iaload, 1) := by decide +kernel
theorem dL_law_626 : decode code 626 = .ok (.aload_n 0, 1) := by decide +kernel
theorem dL_law_627 : decode code 627 = .ok (.iload_n 3, 1) := by decide +kernel
theorem dL_law_628 : decode code 628 = .ok (.iconst 3, 1) := by decide +kernel
theorem dL_law_629 : decode code 629 = .ok (.iadd, 1) := by decide +kernel
theorem dL_law_630 : decode code 630 = .ok (.iaload, 1) := by decide +kernel
theorem dL_law_631 : decode code 631 = .ok (.aload_n 0, 1) := by decide +kernel
theorem dL_law_632 : decode code 632 = .ok (.iload_n 3, 1) := by decide +kernel
theorem dL_law_633 : decode code 633 = .ok (.iconst 4, 1) := by decide +kernel
theorem dL_law_634 : decode code 634 = .ok (.iadd, 1) := by decide +kernel
theorem dL_law_635 : decode code 635 = .ok (.iaload, 1) := by decide +kernel
theorem dL_law_636 : decode code 636 = .ok (.invokevirtual 86, 3) := by decide +kernel
theorem dL_law_639 : decode code 639 = .ok (.f2d, 1) := by decide +kernel
theorem dL_law_640 : decode code 640 = .ok (.dstore 4, 2) := by decide +kernel
theorem dL_law_642 : decode code 642 = .ok (.aload_n 2, 1) := by decide +kernel
theorem dL_law_643 : decode code 643 = .ok (.aload_n 0, 1) := by decide +kernel
theorem dL_law_644 : decode code 644 = .ok (.iload_n 3, 1) := by decide +kernel
theorem dL_law_645 : decode code 645 = .ok (.iconst 1, 1) := by decide +kernel
theorem dL_law_646 : decode code 646 = .ok (.iadd, 1) := by decide +kernel
theorem dL_law_647 : decode code 647 = .ok (.iaload, 1) := by decide +kernel
theorem dL_law_648 : decode code 648 = .ok (.aload_n 0, 1) := by decide +kernel
theorem dL_law_649 : decode code 649 = .ok (.iload_n 3, 1) := by decide +kernel
theorem dL_law_650 : decode code 650 = .ok (.iconst 2, 1) := by decide +kernel
theorem dL_law_651 : decode code 651 = .ok (.iadd, 1) := by decide +kernel
theorem dL_law_652 : decode code 652 = .ok (.iaload, 1) := by decide +kernel
theorem dL_law_653 : decode code 653 = .ok (.aload_n 0, 1) := by decide +kernel
theorem dL_law_654 : decode code 654 = .ok (.iload_n 3, 1) := by decide +kernel
theorem dL_law_655 : decode code 655 = .ok (.iconst 3, 1) := by decide +kernel
theorem dL_law_656 : decode code 656 = .ok (.iadd, 1) := by decide +kernel
theorem dL_law_657 : decode code 657 = .ok (.iaload, 1) := by decide +kernel
theorem dL_law_658 : decode code 658 = .ok (.aload_n 0, 1) := by decide +kernel
theorem dL_law_659 : decode code 659 = .ok (.iload_n 3, 1) := by decide +kernel
theorem dL_law_660 : decode code 660 = .ok (.iconst 4, 1) := by decide +kernel
theorem dL_law_661 : decode code 661 = .ok (.iadd, 1) := by decide +kernel
theorem dL_law_662 : decode code 662 = .ok (.iaload, 1) := by decide +kernel
theorem dL_law_663 : decode code 663 = .ok (.invokevirtual 90, 3) := by decide +kernel
theorem dL_law_666 : decode code 666 = .ok (.f2d, 1) := by decide +kernel
theorem dL_law_667 : decode code 667 = .ok (.dstore 6, 2) := by decide +kernel
theorem dL_law_669 : decode code 669 = .ok (.dload 4, 2) := by decide +kernel
theorem dL_law_671 : decode code 671 = .ok (.dload 6, 2) := by decide +kernel
theorem dL_law_673 : decode code 673 = .ok (.dcmp .l, 1) := by decide +kernel
theorem dL_law_674 : decode code 674 = .ok (.ifCond .eq 21, 3) := by decide +kernel
theorem dL_law_677 : decode code 677 = .ok (.dload 4, 2) := by decide +kernel
theorem dL_law_679 : decode code 679 = .ok (.dload 4, 2) := by decide +kernel
theorem dL_law_681 : decode code 681 = .ok (.dcmp .l, 1) := by decide +kernel
theorem dL_law_682 : decode code 682 = .ok (.ifCond .eq 11, 3) := by decide +kernel
theorem dL_law_685 : decode code 685 = .ok (.dload 6, 2) := by decide +kernel
theorem dL_law_687 : decode code 687 = .ok (.dload 6, 2) := by decide +kernel
theorem dL_law_689 : decode code 689 = .ok (.dcmp .l, 1) := by decide +kernel
theorem dL_law_690 : decode code 690 = .ok (.ifCond .ne 5, 3) := by decide +kernel
theorem dL_law_695 : decode code 695 = .ok (.goto 138, 3) := by decide +kernel
theorem ck_L_86 : CkV RL 86 RX6 yX6_speedLeft cX6_speedLeft 5 (some .float) 4 := ⟨wm_L_86, wim_yX6_speedLeft, wse_yX6_speedLeft, wi_X6, wc_yX6_speedLeft, by decide +kernel⟩
theorem ck_L_90 : CkV RL 90 RX7 yX7_speedLeft cX7_speedLeft 6 (some .float) 4 := ⟨wm_L_90, wim_yX7_speedLeft, wse_yX7_speedLeft, wi_X7, wc_yX7_speedLeft, by decide +kernel⟩
set_option maxHeartbeats 4000000 in
set_option maxRecDepth 100000 in
theorem law_speedLeft (X : Cx p m meth c code 8 s #[Value.ref b] RL E (lwA s)) (hX : va_X b L xs s s.heap) (hbl : b < s.heap.size) (hL : L ≤ 3072) (hi : i + 6 ≤ L) (R : REL hs σ σn ny o η t μ) (w : Wd E (lwA s) s (wHb h (a1 0) (a2 0) (a3 0) (ah 0) (a5 0) k hs ++ (wSt E a1 σ ++ (wSt E a2 σn ++ (wSt E a3 σr ++ (wHs E ah hh ny o η ++ (wTx E a5 t ++ (wSh k j z sp ++ (wWk j d ++ wMd E am μ sp2)))))))) H locs) (hl : lv_has ls 8 [(3, .int (nI i)), (2, .ref (am 0)), (1, .ref h), (0, .ref b)]) (next : NX p l e s m b below meth c E h k j a1 a2 a3 ah a5 am hh i) : W p l e room_1 s m #[Value.ref b] below meth c H locs 82 1976 (lw_Z below #[Value.ref b] s) (F0 m 615 ls []) := by
  have hx := X.1
  have hb := X.2.1
  have hbA : ¬ lwA s b := lwA_out s b hbl
  refine lv_aload_n hx hb dL_law_615 rfl (lv_at hl 2 rfl) ?_
  refine lv_aload_n hx hb dL_law_616 rfl (lv_at hl 3 rfl) ?_
  refine lv_iload_n hx hb dL_law_617 rfl (lv_at hl 0 rfl) ?_
  refine lv_iconst (v := 1) hx hb dL_law_618 (by decide) ?_
  refine lv_iadd hx hb dL_law_619 ?_
  refine va_sld hx hb hX hbl hbA w.2.2 (sx_ix (k := 1) 1 rfl (by decide) hi hL) dL_law_620 ?_
  refine lv_aload_n hx hb dL_law_621 rfl (lv_at hl 3 rfl) ?_
  refine lv_iload_n hx hb dL_law_622 rfl (lv_at hl 0 rfl) ?_
  refine lv_iconst (v := 2) hx hb dL_law_623 (by decide) ?_
  refine lv_iadd hx hb dL_law_624 ?_
  refine va_sld hx hb hX hbl hbA w.2.2 (sx_ix (k := 2) 2 rfl (by decide) hi hL) dL_law_625 ?_
  refine lv_aload_n hx hb dL_law_626 rfl (lv_at hl 3 rfl) ?_
  refine lv_iload_n hx hb dL_law_627 rfl (lv_at hl 0 rfl) ?_
  refine lv_iconst (v := 3) hx hb dL_law_628 (by decide) ?_
  refine lv_iadd hx hb dL_law_629 ?_
  refine va_sld hx hb hX hbl hbA w.2.2 (sx_ix (k := 3) 3 rfl (by decide) hi hL) dL_law_630 ?_
  refine lv_aload_n hx hb dL_law_631 rfl (lv_at hl 3 rfl) ?_
  refine lv_iload_n hx hb dL_law_632 rfl (lv_at hl 0 rfl) ?_
  refine lv_iconst (v := 4) hx hb dL_law_633 (by decide) ?_
  refine lv_iadd hx hb dL_law_634 ?_
  refine va_sld hx hb hX hbl hbA w.2.2 (sx_ix (k := 4) 4 rfl (by decide) hi hL) dL_law_635 ?_
  refine r_cf w (r_runV (As := [.int (xs ((nI i) + 1).toNatClampNeg), .int (xs ((nI i) + 2).toNatClampNeg), .int (xs ((nI i) + 3).toNatClampNeg), .int (xs ((nI i) + 4).toNatClampNeg)]) (rest := []) X w (kX6_speedLeft l E h (a2 0) (ah 0) (a5 0) k hs a1 σ a3 σr j z sp d (xs ((nI i) + 1).toNatClampNeg) (xs ((nI i) + 2).toNatClampNeg) (xs ((nI i) + 3).toNatClampNeg) (xs ((nI i) + 4).toNatClampNeg) (REL_gs R)) ck_L_86 ⟨Nat.le_of_ble_eq_true rfl, Nat.le_of_ble_eq_true rfl⟩ [0, 1, 2, 3, 4, 5, 6, 7, 8, 9, 19, 20, 21, 22, 23, 24, 25, 26, 27, 70, 71] (hc_123 (E := E)) (by decide +kernel) (k0 := 0) CL6 rfl hl.1 (Nat.le_of_ble_eq_true rfl) rfl dL_law_636 ⟨Nat.le_of_ble_eq_true rfl, Nat.le_of_ble_eq_true rfl⟩) (wHb h (a1 0) (a2 0) (a3 0) (ah 0) (a5 0) k hs ++ (wSt E a1 σ ++ (wSt E a2 σn ++ (wSt E a3 ((fX6_speedLeft hs σ σr z sp d (xs ((nI i) + 1).toNatClampNeg) (xs ((nI i) + 2).toNatClampNeg) (xs ((nI i) + 3).toNatClampNeg) (xs ((nI i) + 4).toNatClampNeg)).2.1) ++ (wHs E ah hh ny o η ++ (wTx E a5 t ++ (wSh k j ((fX6_speedLeft hs σ σr z sp d (xs ((nI i) + 1).toNatClampNeg) (xs ((nI i) + 2).toNatClampNeg) (xs ((nI i) + 3).toNatClampNeg) (xs ((nI i) + 4).toNatClampNeg)).2.2.1) ((fX6_speedLeft hs σ σr z sp d (xs ((nI i) + 1).toNatClampNeg) (xs ((nI i) + 2).toNatClampNeg) (xs ((nI i) + 3).toNatClampNeg) (xs ((nI i) + 4).toNatClampNeg)).2.2.2.1) ++ (wWk j ((fX6_speedLeft hs σ σr z sp d (xs ((nI i) + 1).toNatClampNeg) (xs ((nI i) + 2).toNatClampNeg) (xs ((nI i) + 3).toNatClampNeg) (xs ((nI i) + 4).toNatClampNeg)).2.2.2.2) ++ wMd E am μ sp2)))))))) [0, 1, 2, 3, 4, 5, 6, 7, 8, 9, 19, 20, 21, 22, 23, 24, 25, 26, 27, 70, 71] (hc_123 (E := E)) (by decide +kernel) (ha_123 (E := E)) (hw_123 (E := E)) (fun H locs w => ?_)
  rw [(s_speedLeft (sp := sp2) R).1]
  refine lv_f2d hx hb dL_law_639 (sl_n64 R) ?_
  refine lv_dstore (lv' := [(4, .double (FP.f2d ((fX7_speedLeft μ sp2 (xs ((nI i) + 1).toNatClampNeg) (xs ((nI i) + 2).toNatClampNeg) (xs ((nI i) + 3).toNatClampNeg) (xs ((nI i) + 4).toNatClampNeg)).1))), (3, .int (nI i)), (2, .ref (am 0)), (1, .ref h), (0, .ref b)]) hx hb dL_law_640 hl (by decide) rfl (fun ls hl => ?_)
  refine lv_aload_n hx hb dL_law_642 rfl (lv_at hl 2 rfl) ?_
  refine lv_aload_n hx hb dL_law_643 rfl (lv_at hl 4 rfl) ?_
  refine lv_iload_n hx hb dL_law_644 rfl (lv_at hl 1 rfl) ?_
  refine lv_iconst (v := 1) hx hb dL_law_645 (by decide) ?_
  refine lv_iadd hx hb dL_law_646 ?_
  refine va_sld hx hb hX hbl hbA w.2.2 (sx_ix (k := 1) 1 rfl (by decide) hi hL) dL_law_647 ?_
  refine lv_aload_n hx hb dL_law_648 rfl (lv_at hl 4 rfl) ?_
  refine lv_iload_n hx hb dL_law_649 rfl (lv_at hl 1 rfl) ?_
  refine lv_iconst (v := 2) hx hb dL_law_650 (by decide) ?_
  refine lv_iadd hx hb dL_law_651 ?_
  refine va_sld hx hb hX hbl hbA w.2.2 (sx_ix (k := 2) 2 rfl (by decide) hi hL) dL_law_652 ?_
  refine lv_aload_n hx hb dL_law_653 rfl (lv_at hl 4 rfl) ?_
  refine lv_iload_n hx hb dL_law_654 rfl (lv_at hl 1 rfl) ?_
  refine lv_iconst (v := 3) hx hb dL_law_655 (by decide) ?_
  refine lv_iadd hx hb dL_law_656 ?_
  refine va_sld hx hb hX hbl hbA w.2.2 (sx_ix (k := 3) 3 rfl (by decide) hi hL) dL_law_657 ?_
  refine lv_aload_n hx hb dL_law_658 rfl (lv_at hl 4 rfl) ?_
  refine lv_iload_n hx hb dL_law_659 rfl (lv_at hl 1 rfl) ?_
  refine lv_iconst (v := 4) hx hb dL_law_660 (by decide) ?_
  refine lv_iadd hx hb dL_law_661 ?_
  refine va_sld hx hb hX hbl hbA w.2.2 (sx_ix (k := 4) 4 rfl (by decide) hi hL) dL_law_662 ?_
  refine r_cf w (r_runV (As := [.int (xs ((nI i) + 1).toNatClampNeg), .int (xs ((nI i) + 2).toNatClampNeg), .int (xs ((nI i) + 3).toNatClampNeg), .int (xs ((nI i) + 4).toNatClampNeg)]) (rest := []) X w (kX7_speedLeft l E am μ sp2 (xs ((nI i) + 1).toNatClampNeg) (xs ((nI i) + 2).toNatClampNeg) (xs ((nI i) + 3).toNatClampNeg) (xs ((nI i) + 4).toNatClampNeg) (REL_gE R) (REL_gA R) (REL_gTab R)) ck_L_90 ⟨Nat.le_of_ble_eq_true rfl, Nat.le_of_ble_eq_true rfl⟩ [72, 73, 74, 75, 76, 77, 78, 79, 80, 81] (hc_115 (E := E)) (by decide +kernel) (k0 := 0) CL7 rfl hl.1 (Nat.le_of_ble_eq_true rfl) rfl dL_law_663 ⟨Nat.le_of_ble_eq_true rfl, Nat.le_of_ble_eq_true rfl⟩) (wHb h (a1 0) (a2 0) (a3 0) (ah 0) (a5 0) k hs ++ (wSt E a1 σ ++ (wSt E a2 σn ++ (wSt E a3 ((fX6_speedLeft hs σ σr z sp d (xs ((nI i) + 1).toNatClampNeg) (xs ((nI i) + 2).toNatClampNeg) (xs ((nI i) + 3).toNatClampNeg) (xs ((nI i) + 4).toNatClampNeg)).2.1) ++ (wHs E ah hh ny o η ++ (wTx E a5 t ++ (wSh k j ((fX6_speedLeft hs σ σr z sp d (xs ((nI i) + 1).toNatClampNeg) (xs ((nI i) + 2).toNatClampNeg) (xs ((nI i) + 3).toNatClampNeg) (xs ((nI i) + 4).toNatClampNeg)).2.2.1) ((fX6_speedLeft hs σ σr z sp d (xs ((nI i) + 1).toNatClampNeg) (xs ((nI i) + 2).toNatClampNeg) (xs ((nI i) + 3).toNatClampNeg) (xs ((nI i) + 4).toNatClampNeg)).2.2.2.1) ++ (wWk j ((fX6_speedLeft hs σ σr z sp d (xs ((nI i) + 1).toNatClampNeg) (xs ((nI i) + 2).toNatClampNeg) (xs ((nI i) + 3).toNatClampNeg) (xs ((nI i) + 4).toNatClampNeg)).2.2.2.2) ++ wMd E am ((fX7_speedLeft μ sp2 (xs ((nI i) + 1).toNatClampNeg) (xs ((nI i) + 2).toNatClampNeg) (xs ((nI i) + 3).toNatClampNeg) (xs ((nI i) + 4).toNatClampNeg)).2.1) ((fX7_speedLeft μ sp2 (xs ((nI i) + 1).toNatClampNeg) (xs ((nI i) + 2).toNatClampNeg) (xs ((nI i) + 3).toNatClampNeg) (xs ((nI i) + 4).toNatClampNeg)).2.2))))))))) [72, 73, 74, 75, 76, 77, 78, 79, 80, 81] (hc_115 (E := E)) (by decide +kernel) (ha_115 (E := E)) (hw_115 (E := E)) (fun H locs w => ?_)
  refine lv_f2d hx hb dL_law_666 (sl_n64 R) ?_
  refine lv_dstore (lv' := [(6, .double (FP.f2d ((fX7_speedLeft μ sp2 (xs ((nI i) + 1).toNatClampNeg) (xs ((nI i) + 2).toNatClampNeg) (xs ((nI i) + 3).toNatClampNeg) (xs ((nI i) + 4).toNatClampNeg)).1))), (4, .double (FP.f2d ((fX7_speedLeft μ sp2 (xs ((nI i) + 1).toNatClampNeg) (xs ((nI i) + 2).toNatClampNeg) (xs ((nI i) + 3).toNatClampNeg) (xs ((nI i) + 4).toNatClampNeg)).1))), (3, .int (nI i)), (2, .ref (am 0)), (1, .ref h), (0, .ref b)]) hx hb dL_law_667 hl (by decide) rfl (fun ls hl => ?_)
  rcases dc_self (FP.f2d ((fX7_speedLeft μ sp2 (xs ((nI i) + 1).toNatClampNeg) (xs ((nI i) + 2).toNatClampNeg) (xs ((nI i) + 3).toNatClampNeg) (xs ((nI i) + 4).toNatClampNeg)).1)) with hdc | hdc
  · refine lv_dload hx hb dL_law_669 (lv_at hl 1 rfl) ?_
    refine lv_dload hx hb dL_law_671 (lv_at hl 0 rfl) ?_
    refine lv_dcmp hx hb dL_law_673 ?_
    rw [hdc]
    refine lv_if_eq (tgt := 695) hx hb dL_law_674 (by decide) (fun h => absurd h (by decide)) (fun _ => ?_)
    refine lv_dload hx hb dL_law_677 (lv_at hl 1 rfl) ?_
    refine lv_dload hx hb dL_law_679 (lv_at hl 1 rfl) ?_
    refine lv_dcmp hx hb dL_law_681 ?_
    rw [hdc]
    refine lv_if_eq (tgt := 693) hx hb dL_law_682 (by decide) (fun h => absurd h (by decide)) (fun _ => ?_)
    refine lv_dload hx hb dL_law_685 (lv_at hl 0 rfl) ?_
    refine lv_dload hx hb dL_law_687 (lv_at hl 0 rfl) ?_
    refine lv_dcmp hx hb dL_law_689 ?_
    rw [hdc]
    refine lv_if_ne (tgt := 695) hx hb dL_law_690 (by decide) (fun _ => ?_) (fun h => absurd h (by decide))
    refine lv_goto (tgt := 833) hx hb dL_law_695 (by decide) ?_
    exact next _ _ _ _ _ _ _ _ _ _ _ _ _ _ _ _ (s_speedLeft (σr := σr) (z := z) (d := d) (sp2 := sp) R).2 w (lv_sub hl [2, 3, 4, 5] rfl)
  · refine lv_dload hx hb dL_law_669 (lv_at hl 1 rfl) ?_
    refine lv_dload hx hb dL_law_671 (lv_at hl 0 rfl) ?_
    refine lv_dcmp hx hb dL_law_673 ?_
    rw [hdc]
    refine lv_if_eq (tgt := 695) hx hb dL_law_674 (by decide) (fun _ => ?_) (fun h => absurd (by decide) h)
    refine lv_goto (tgt := 833) hx hb dL_law_695 (by decide) ?_
    exact next _ _ _ _ _ _ _ _ _ _ _ _ _ _ _ _ (s_speedLeft (σr := σr) (z := z) (d := d) (sp2 := sp) R).2 w (lv_sub hl [2, 3, 4, 5] rfl)
theorem dL_law_698 : decode code 698 = .ok (.aload_n 1, 1) := by decide +kernel
theorem dL_law_699 : decode code 699 = .ok (.aload_n 0, 1) := by decide +kernel
theorem dL_law_700 : decode code 700 = .ok (.iload_n 3, 1) := by decide +kernel
theorem dL_law_701 : decode code 701 = .ok (.iconst 1, 1) := by decide +kernel
theorem dL_law_702 : decode code 702 = .ok (.iadd, 1) := by decide +kernel
theorem dL_law_703 : decode code 703 = .ok (.iaload, 1) := by decide +kernel
theorem dL_law_704 : decode code 704 = .ok (.aload_n 0, 1) := by decide +kernel
theorem dL_law_705 : decode code 705 = .ok (.iload_n 3, 1) := by decide +kernel
theorem dL_law_706 : decode code 706 = .ok (.iconst 2, 1) := by decide +kernel
theorem dL_law_707 : decode code 707 = .ok (.iadd, 1) := by decide +kernel
theorem dL_law_708 : decode code 708 = .ok (.iaload, 1) := by decide +kernel
theorem dL_law_709 : decode code 709 = .ok (.aload_n 0, 1) := by decide +kernel
theorem dL_law_710 : decode code 710 = .ok (.iload_n 3, 1) := by decide +kernel
theorem dL_law_711 : decode code 711 = .ok (.iconst 3, 1) := by decide +kernel
theorem dL_law_712 : decode code 712 = .ok (.iadd, 1) := by decide +kernel
theorem dL_law_713 : decode code 713 = .ok (.iaload, 1) := by decide +kernel
theorem dL_law_714 : decode code 714 = .ok (.aload_n 0, 1) := by decide +kernel
theorem dL_law_715 : decode code 715 = .ok (.iload_n 3, 1) := by decide +kernel
theorem dL_law_716 : decode code 716 = .ok (.iconst 4, 1) := by decide +kernel
theorem dL_law_717 : decode code 717 = .ok (.iadd, 1) := by decide +kernel
theorem dL_law_718 : decode code 718 = .ok (.iaload, 1) := by decide +kernel
theorem dL_law_719 : decode code 719 = .ok (.ifCond .eq 7, 3) := by decide +kernel
theorem dL_law_722 : decode code 722 = .ok (.iconst 1, 1) := by decide +kernel
theorem dL_law_723 : decode code 723 = .ok (.goto 4, 3) := by decide +kernel
theorem dL_law_726 : decode code 726 = .ok (.iconst 0, 1) := by decide +kernel
theorem dL_law_727 : decode code 727 = .ok (.invokevirtual 91, 3) := by decide +kernel
theorem dL_law_730 : decode code 730 = .ok (.aload_n 2, 1) := by decide +kernel
theorem dL_law_731 : decode code 731 = .ok (.aload_n 0, 1) := by decide +kernel
theorem dL_law_732 : decode code 732 = .ok (.iload_n 3, 1) := by decide +kernel
theorem dL_law_733 : decode code 733 = .ok (.iconst 1, 1) := by decide +kernel
theorem dL_law_734 : decode code 734 = .ok (.iadd, 1) := by decide +kernel
theorem dL_law_735 : decode code 735 = .ok (.iaload, 1) := by decide +kernel
theorem dL_law_736 : decode code 736 = .ok (.aload_n 0, 1) := by decide +kernel
theorem dL_law_737 : decode code 737 = .ok (.iload_n 3, 1) := by decide +kernel
theorem dL_law_738 : decode code 738 = .ok (.iconst 2, 1) := by decide +kernel
theorem dL_law_739 : decode code 739 = .ok (.iadd, 1) := by decide +kernel
theorem dL_law_740 : decode code 740 = .ok (.iaload, 1) := by decide +kernel
theorem dL_law_741 : decode code 741 = .ok (.aload_n 0, 1) := by decide +kernel
theorem dL_law_742 : decode code 742 = .ok (.iload_n 3, 1) := by decide +kernel
theorem dL_law_743 : decode code 743 = .ok (.iconst 3, 1) := by decide +kernel
theorem dL_law_744 : decode code 744 = .ok (.iadd, 1) := by decide +kernel
theorem dL_law_745 : decode code 745 = .ok (.iaload, 1) := by decide +kernel
theorem dL_law_746 : decode code 746 = .ok (.aload_n 0, 1) := by decide +kernel
theorem dL_law_747 : decode code 747 = .ok (.iload_n 3, 1) := by decide +kernel
theorem dL_law_748 : decode code 748 = .ok (.iconst 4, 1) := by decide +kernel
theorem dL_law_749 : decode code 749 = .ok (.iadd, 1) := by decide +kernel
theorem dL_law_750 : decode code 750 = .ok (.iaload, 1) := by decide +kernel
theorem dL_law_751 : decode code 751 = .ok (.ifCond .eq 7, 3) := by decide +kernel
theorem dL_law_754 : decode code 754 = .ok (.iconst 1, 1) := by decide +kernel
theorem dL_law_755 : decode code 755 = .ok (.goto 4, 3) := by decide +kernel
theorem dL_law_758 : decode code 758 = .ok (.iconst 0, 1) := by decide +kernel
theorem dL_law_759 : decode code 759 = .ok (.invokevirtual 95, 3) := by decide +kernel
theorem dL_law_762 : decode code 762 = .ok (.if_icmp .eq 71, 3) := by decide +kernel
theorem ck_L_91 : CkV RL 91 RX6 yX6_along cX6_along 6 (some .int) 4 := ⟨wm_L_91, wim_yX6_along, wse_yX6_along, wi_X6, wc_yX6_along, by decide +kernel⟩
theorem ck_L_95 : CkV RL 95 RX7 yX7_along cX7_along 8 (some .int) 4 := ⟨wm_L_95, wim_yX7_along, wse_yX7_along, wi_X7, wc_yX7_along, by decide +kernel⟩
theorem hc_124 {E : Ev} {a0 p0_0 p0_1 p0_2 p0_3 p0_4 p0_5 : Nat} {n0 : Int32} {a1 : Nat → Nat} {σ1 : N2} {a2 : Nat → Nat} {σ2 : N2} {a3 : Nat → Nat} {σ3 : N2} {a4 : Nat → Nat} {h4 : Nat → Nat → Nat} {n4 : Int32} {η4 : Nat → N2} {o4 : Nat} {a5 : Nat → Nat} {σ5 : N2} {a6 j6 : Nat} {σ6 : N1} {v6 : UInt32} {a7 : Nat} {σ7 : N1} {a8 : Nat → Nat} {σ8 : N2} {v8 : UInt32} : ([0, 70, 71] : List Nat).map (fun i => (wHb a0 p0_0 p0_1 p0_2 p0_3 p0_4 p0_5 n0 ++ (wSt E a1 σ1 ++ (wSt E a2 σ2 ++ (wSt E a3 σ3 ++ (wHs E a4 h4 n4 o4 η4 ++ (wTx E a5 σ5 ++ (wSh a6 j6 σ6 v6 ++ (wWk a7 σ7 ++ wMd E a8 σ8 v8))))))))[i]?) = (wHb a0 p0_0 p0_1 p0_2 p0_3 p0_4 p0_5 n0 ++ (wSh a6 j6 σ6 v6 ++ wWk a7 σ7)).map some := get_app (is1 := rg 0 1) (is2 := rg 70 1 ++ (rg 71 1)) (by rw [show wHb a0 p0_0 p0_1 p0_2 p0_3 p0_4 p0_5 n0 ++ (wSt E a1 σ1 ++ (wSt E a2 σ2 ++ (wSt E a3 σ3 ++ (wHs E a4 h4 n4 o4 η4 ++ (wTx E a5 σ5 ++ (wSh a6 j6 σ6 v6 ++ (wWk a7 σ7 ++ (wMd E a8 σ8 v8)))))))) = ([] : va_W) ++ (wHb a0 p0_0 p0_1 p0_2 p0_3 p0_4 p0_5 n0 ++ (wSt E a1 σ1 ++ (wSt E a2 σ2 ++ (wSt E a3 σ3 ++ (wHs E a4 h4 n4 o4 η4 ++ (wTx E a5 σ5 ++ (wSh a6 j6 σ6 v6 ++ (wWk a7 σ7 ++ (wMd E a8 σ8 v8))))))))) by simp only [List.append_assoc, List.nil_append, List.append_nil]]; exact get1 (s := 0) (n := 1) rfl rfl) (get_app (is1 := rg 70 1) (is2 := rg 71 1) (by rw [show wHb a0 p0_0 p0_1 p0_2 p0_3 p0_4 p0_5 n0 ++ (wSt E a1 σ1 ++ (wSt E a2 σ2 ++ (wSt E a3 σ3 ++ (wHs E a4 h4 n4 o4 η4 ++ (wTx E a5 σ5 ++ (wSh a6 j6 σ6 v6 ++ (wWk a7 σ7 ++ (wMd E a8 σ8 v8)))))))) = (wHb a0 p0_0 p0_1 p0_2 p0_3 p0_4 p0_5 n0 ++ (wSt E a1 σ1 ++ (wSt E a2 σ2 ++ (wSt E a3 σ3 ++ (wHs E a4 h4 n4 o4 η4 ++ (wTx E a5 σ5)))))) ++ (wSh a6 j6 σ6 v6 ++ (wWk a7 σ7 ++ (wMd E a8 σ8 v8))) by simp only [List.append_assoc, List.nil_append, List.append_nil]]; exact get1 (s := 70) (n := 1) rfl rfl) ((by rw [show wHb a0 p0_0 p0_1 p0_2 p0_3 p0_4 p0_5 n0 ++ (wSt E a1 σ1 ++ (wSt E a2 σ2 ++ (wSt E a3 σ3 ++ (wHs E a4 h4 n4 o4 η4 ++ (wTx E a5 σ5 ++ (wSh a6 j6 σ6 v6 ++ (wWk a7 σ7 ++ (wMd E a8 σ8 v8)))))))) = (wHb a0 p0_0 p0_1 p0_2 p0_3 p0_4 p0_5 n0 ++ (wSt E a1 σ1 ++ (wSt E a2 σ2 ++ (wSt E a3 σ3 ++ (wHs E a4 h4 n4 o4 η4 ++ (wTx E a5 σ5 ++ (wSh a6 j6 σ6 v6))))))) ++ (wWk a7 σ7 ++ (wMd E a8 σ8 v8)) by simp only [List.append_assoc, List.nil_append, List.append_nil]]; exact get1 (s := 71) (n := 1) rfl rfl)))
theorem ha_124 {E : Ev} {a0 p0_0 p0_1 p0_2 p0_3 p0_4 p0_5 : Nat} {n0 : Int32} {a6 j6 : Nat} {σ6 : N1} {v6 : UInt32} {a7 : Nat} {σ7 : N1} {τ0_0 : Int32} {τ1_0 : N1} {τ1_1 : UInt32} {τ2_0 : N1} : (wHb a0 p0_0 p0_1 p0_2 p0_3 p0_4 p0_5 τ0_0 ++ (wSh a6 j6 τ1_0 τ1_1 ++ wWk a7 τ2_0)).map Prod.fst = (wHb a0 p0_0 p0_1 p0_2 p0_3 p0_4 p0_5 n0 ++ (wSh a6 j6 σ6 v6 ++ wWk a7 σ7)).map Prod.fst := fst_app fst_Hb (fst_app fst_Sh (fst_Wk))
theorem hw_124 {E : Ev} {a0 p0_0 p0_1 p0_2 p0_3 p0_4 p0_5 : Nat} {n0 : Int32} {a1 : Nat → Nat} {σ1 : N2} {a2 : Nat → Nat} {σ2 : N2} {a3 : Nat → Nat} {σ3 : N2} {a4 : Nat → Nat} {h4 : Nat → Nat → Nat} {n4 : Int32} {η4 : Nat → N2} {o4 : Nat} {a5 : Nat → Nat} {σ5 : N2} {a6 j6 : Nat} {σ6 : N1} {v6 : UInt32} {a7 : Nat} {σ7 : N1} {a8 : Nat → Nat} {σ8 : N2} {v8 : UInt32} {τ0_0 : Int32} {τ1_0 : N1} {τ1_1 : UInt32} {τ2_0 : N1} : wput (wHb a0 p0_0 p0_1 p0_2 p0_3 p0_4 p0_5 n0 ++ (wSt E a1 σ1 ++ (wSt E a2 σ2 ++ (wSt E a3 σ3 ++ (wHs E a4 h4 n4 o4 η4 ++ (wTx E a5 σ5 ++ (wSh a6 j6 σ6 v6 ++ (wWk a7 σ7 ++ wMd E a8 σ8 v8)))))))) [0, 70, 71] (wHb a0 p0_0 p0_1 p0_2 p0_3 p0_4 p0_5 τ0_0 ++ (wSh a6 j6 τ1_0 τ1_1 ++ wWk a7 τ2_0)) = wHb a0 p0_0 p0_1 p0_2 p0_3 p0_4 p0_5 τ0_0 ++ (wSt E a1 σ1 ++ (wSt E a2 σ2 ++ (wSt E a3 σ3 ++ (wHs E a4 h4 n4 o4 η4 ++ (wTx E a5 σ5 ++ (wSh a6 j6 τ1_0 τ1_1 ++ (wWk a7 τ2_0 ++ wMd E a8 σ8 v8))))))) := by
  show wput (wHb a0 p0_0 p0_1 p0_2 p0_3 p0_4 p0_5 n0 ++ (wSt E a1 σ1 ++ (wSt E a2 σ2 ++ (wSt E a3 σ3 ++ (wHs E a4 h4 n4 o4 η4 ++ (wTx E a5 σ5 ++ (wSh a6 j6 σ6 v6 ++ (wWk a7 σ7 ++ (wMd E a8 σ8 v8))))))))) (rg 0 1 ++ (rg 70 1 ++ (rg 71 1))) (wHb a0 p0_0 p0_1 p0_2 p0_3 p0_4 p0_5 τ0_0 ++ (wSh a6 j6 τ1_0 τ1_1 ++ wWk a7 τ2_0)) = _
  rw [wput_app rfl]
  rw [show wHb a0 p0_0 p0_1 p0_2 p0_3 p0_4 p0_5 n0 ++ (wSt E a1 σ1 ++ (wSt E a2 σ2 ++ (wSt E a3 σ3 ++ (wHs E a4 h4 n4 o4 η4 ++ (wTx E a5 σ5 ++ (wSh a6 j6 σ6 v6 ++ (wWk a7 σ7 ++ (wMd E a8 σ8 v8)))))))) = ([] : va_W) ++ (wHb a0 p0_0 p0_1 p0_2 p0_3 p0_4 p0_5 n0 ++ (wSt E a1 σ1 ++ (wSt E a2 σ2 ++ (wSt E a3 σ3 ++ (wHs E a4 h4 n4 o4 η4 ++ (wTx E a5 σ5 ++ (wSh a6 j6 σ6 v6 ++ (wWk a7 σ7 ++ (wMd E a8 σ8 v8))))))))) by simp only [List.append_assoc, List.nil_append, List.append_nil], put1 (s := 0) (n := 1) rfl rfl rfl]
  rw [wput_app rfl]
  rw [show ([] : va_W) ++ (wHb a0 p0_0 p0_1 p0_2 p0_3 p0_4 p0_5 τ0_0 ++ (wSt E a1 σ1 ++ (wSt E a2 σ2 ++ (wSt E a3 σ3 ++ (wHs E a4 h4 n4 o4 η4 ++ (wTx E a5 σ5 ++ (wSh a6 j6 σ6 v6 ++ (wWk a7 σ7 ++ (wMd E a8 σ8 v8))))))))) = (wHb a0 p0_0 p0_1 p0_2 p0_3 p0_4 p0_5 τ0_0 ++ (wSt E a1 σ1 ++ (wSt E a2 σ2 ++ (wSt E a3 σ3 ++ (wHs E a4 h4 n4 o4 η4 ++ (wTx E a5 σ5)))))) ++ (wSh a6 j6 σ6 v6 ++ (wWk a7 σ7 ++ (wMd E a8 σ8 v8))) by simp only [List.append_assoc, List.nil_append, List.append_nil], put1 (s := 70) (n := 1) rfl rfl rfl]
  rw [show (wHb a0 p0_0 p0_1 p0_2 p0_3 p0_4 p0_5 τ0_0 ++ (wSt E a1 σ1 ++ (wSt E a2 σ2 ++ (wSt E a3 σ3 ++ (wHs E a4 h4 n4 o4 η4 ++ (wTx E a5 σ5)))))) ++ (wSh a6 j6 τ1_0 τ1_1 ++ (wWk a7 σ7 ++ (wMd E a8 σ8 v8))) = (wHb a0 p0_0 p0_1 p0_2 p0_3 p0_4 p0_5 τ0_0 ++ (wSt E a1 σ1 ++ (wSt E a2 σ2 ++ (wSt E a3 σ3 ++ (wHs E a4 h4 n4 o4 η4 ++ (wTx E a5 σ5 ++ (wSh a6 j6 τ1_0 τ1_1))))))) ++ (wWk a7 σ7 ++ (wMd E a8 σ8 v8)) by simp only [List.append_assoc, List.nil_append, List.append_nil], put1 (s := 71) (n := 1) rfl rfl rfl]
  try simp only [List.append_assoc, List.nil_append, List.append_nil]
set_option maxHeartbeats 4000000 in
set_option maxRecDepth 100000 in
theorem law_along (X : Cx p m meth c code 8 s #[Value.ref b] RL E (lwA s)) (hX : va_X b L xs s s.heap) (hbl : b < s.heap.size) (hL : L ≤ 3072) (hi : i + 6 ≤ L) (R : REL hs σ σn ny o η t μ) (w : Wd E (lwA s) s (wHb h (a1 0) (a2 0) (a3 0) (ah 0) (a5 0) k hs ++ (wSt E a1 σ ++ (wSt E a2 σn ++ (wSt E a3 σr ++ (wHs E ah hh ny o η ++ (wTx E a5 t ++ (wSh k j z sp ++ (wWk j d ++ wMd E am μ sp2)))))))) H locs) (hl : lv_has ls 8 [(3, .int (nI i)), (2, .ref (am 0)), (1, .ref h), (0, .ref b)]) (next : NX p l e s m b below meth c E h k j a1 a2 a3 ah a5 am hh i) : W p l e room_1 s m #[Value.ref b] below meth c H locs 82 1976 (lw_Z below #[Value.ref b] s) (F0 m 698 ls []) := by
  have hx := X.1
  have hb := X.2.1
  have hbA : ¬ lwA s b := lwA_out s b hbl
  refine lv_aload_n hx hb dL_law_698 rfl (lv_at hl 2 rfl) ?_
  refine lv_aload_n hx hb dL_law_699 rfl (lv_at hl 3 rfl) ?_
  refine lv_iload_n hx hb dL_law_700 rfl (lv_at hl 0 rfl) ?_
  refine lv_iconst (v := 1) hx hb dL_law_701 (by decide) ?_
  refine lv_iadd hx hb dL_law_702 ?_
  refine va_sld hx hb hX hbl hbA w.2.2 (sx_ix (k := 1) 1 rfl (by decide) hi hL) dL_law_703 ?_
  refine lv_aload_n hx hb dL_law_704 rfl (lv_at hl 3 rfl) ?_
  refine lv_iload_n hx hb dL_law_705 rfl (lv_at hl 0 rfl) ?_
  refine lv_iconst (v := 2) hx hb dL_law_706 (by decide) ?_
  refine lv_iadd hx hb dL_law_707 ?_
  refine va_sld hx hb hX hbl hbA w.2.2 (sx_ix (k := 2) 2 rfl (by decide) hi hL) dL_law_708 ?_
  refine lv_aload_n hx hb dL_law_709 rfl (lv_at hl 3 rfl) ?_
  refine lv_iload_n hx hb dL_law_710 rfl (lv_at hl 0 rfl) ?_
  refine lv_iconst (v := 3) hx hb dL_law_711 (by decide) ?_
  refine lv_iadd hx hb dL_law_712 ?_
  refine va_sld hx hb hX hbl hbA w.2.2 (sx_ix (k := 3) 3 rfl (by decide) hi hL) dL_law_713 ?_
  refine lv_aload_n hx hb dL_law_714 rfl (lv_at hl 3 rfl) ?_
  refine lv_iload_n hx hb dL_law_715 rfl (lv_at hl 0 rfl) ?_
  refine lv_iconst (v := 4) hx hb dL_law_716 (by decide) ?_
  refine lv_iadd hx hb dL_law_717 ?_
  refine va_sld hx hb hX hbl hbA w.2.2 (sx_ix (k := 4) 4 rfl (by decide) hi hL) dL_law_718 ?_
  refine lv_if_eq (tgt := 726) hx hb dL_law_719 (by decide) (fun c719_1 => ?_) (fun c719_1 => ?_)
  · refine lv_iconst (v := 0) hx hb dL_law_726 (by decide) ?_
    refine r_ci w (r_runV (As := [.int (xs ((nI i) + 1).toNatClampNeg), .int (xs ((nI i) + 2).toNatClampNeg), .int (xs ((nI i) + 3).toNatClampNeg), .int 0]) (rest := []) X w (kX6_along l E h (a1 0) (a2 0) (a3 0) (ah 0) (a5 0) k hs j z sp d (xs ((nI i) + 1).toNatClampNeg) (xs ((nI i) + 2).toNatClampNeg) (xs ((nI i) + 3).toNatClampNeg) 0 ) ck_L_91 ⟨Nat.le_of_ble_eq_true rfl, Nat.le_of_ble_eq_true rfl⟩ [0, 70, 71] (hc_124 (E := E)) (by decide +kernel) (k0 := 0) CL6 rfl hl.1 (Nat.le_of_ble_eq_true rfl) rfl dL_law_727 ⟨Nat.le_of_ble_eq_true rfl, Nat.le_of_ble_eq_true rfl⟩) (wHb h (a1 0) (a2 0) (a3 0) (ah 0) (a5 0) k hs ++ (wSt E a1 σ ++ (wSt E a2 σn ++ (wSt E a3 σr ++ (wHs E ah hh ny o η ++ (wTx E a5 t ++ (wSh k j z sp ++ (wWk j ((fX6_along hs z sp d (xs ((nI i) + 1).toNatClampNeg) (xs ((nI i) + 2).toNatClampNeg) (xs ((nI i) + 3).toNatClampNeg) 0).2) ++ wMd E am μ sp2)))))))) [0, 70, 71] (hc_124 (E := E)) (by decide +kernel) (ha_124 (E := E)) (hw_124 (E := E)) (fun H locs w => ?_)
    refine lv_aload_n hx hb dL_law_730 rfl (lv_at hl 1 rfl) ?_
    refine lv_aload_n hx hb dL_law_731 rfl (lv_at hl 3 rfl) ?_
    refine lv_iload_n hx hb dL_law_732 rfl (lv_at hl 0 rfl) ?_
    refine lv_iconst (v := 1) hx hb dL_law_733 (by decide) ?_
    refine lv_iadd hx hb dL_law_734 ?_
    refine va_sld hx hb hX hbl hbA w.2.2 (sx_ix (k := 1) 1 rfl (by decide) hi hL) dL_law_735 ?_
    refine lv_aload_n hx hb dL_law_736 rfl (lv_at hl 3 rfl) ?_
    refine lv_iload_n hx hb dL_law_737 rfl (lv_at hl 0 rfl) ?_
    refine lv_iconst (v := 2) hx hb dL_law_738 (by decide) ?_
    refine lv_iadd hx hb dL_law_739 ?_
    refine va_sld hx hb hX hbl hbA w.2.2 (sx_ix (k := 2) 2 rfl (by decide) hi hL) dL_law_740 ?_
    refine lv_aload_n hx hb dL_law_741 rfl (lv_at hl 3 rfl) ?_
    refine lv_iload_n hx hb dL_law_742 rfl (lv_at hl 0 rfl) ?_
    refine lv_iconst (v := 3) hx hb dL_law_743 (by decide) ?_
    refine lv_iadd hx hb dL_law_744 ?_
    refine va_sld hx hb hX hbl hbA w.2.2 (sx_ix (k := 3) 3 rfl (by decide) hi hL) dL_law_745 ?_
    refine lv_aload_n hx hb dL_law_746 rfl (lv_at hl 3 rfl) ?_
    refine lv_iload_n hx hb dL_law_747 rfl (lv_at hl 0 rfl) ?_
    refine lv_iconst (v := 4) hx hb dL_law_748 (by decide) ?_
    refine lv_iadd hx hb dL_law_749 ?_
    refine va_sld hx hb hX hbl hbA w.2.2 (sx_ix (k := 4) 4 rfl (by decide) hi hL) dL_law_750 ?_
    refine lv_if_eq (tgt := 758) hx hb dL_law_751 (by decide) (fun _ => ?_) (fun h => absurd c719_1 h)
    refine lv_iconst (v := 0) hx hb dL_law_758 (by decide) ?_
    refine r_ci w (r_runV (As := [.int (xs ((nI i) + 1).toNatClampNeg), .int (xs ((nI i) + 2).toNatClampNeg), .int (xs ((nI i) + 3).toNatClampNeg), .int 0]) (rest := [.int ((fX6_along hs z sp d (xs ((nI i) + 1).toNatClampNeg) (xs ((nI i) + 2).toNatClampNeg) (xs ((nI i) + 3).toNatClampNeg) 0).1)]) X w (kX7_along l E am μ sp2 (xs ((nI i) + 1).toNatClampNeg) (xs ((nI i) + 2).toNatClampNeg) (xs ((nI i) + 3).toNatClampNeg) 0 (REL_gTab R)) ck_L_95 ⟨Nat.le_of_ble_eq_true rfl, Nat.le_of_ble_eq_true rfl⟩ [72, 73, 74, 75, 76, 77, 78, 79, 80, 81] (hc_115 (E := E)) (by decide +kernel) (k0 := 0) CL7 rfl hl.1 (Nat.le_of_ble_eq_true rfl) rfl dL_law_759 ⟨Nat.le_of_ble_eq_true rfl, Nat.le_of_ble_eq_true rfl⟩) (wHb h (a1 0) (a2 0) (a3 0) (ah 0) (a5 0) k hs ++ (wSt E a1 σ ++ (wSt E a2 σn ++ (wSt E a3 σr ++ (wHs E ah hh ny o η ++ (wTx E a5 t ++ (wSh k j z sp ++ (wWk j ((fX6_along hs z sp d (xs ((nI i) + 1).toNatClampNeg) (xs ((nI i) + 2).toNatClampNeg) (xs ((nI i) + 3).toNatClampNeg) 0).2) ++ wMd E am μ sp2)))))))) [72, 73, 74, 75, 76, 77, 78, 79, 80, 81] (hc_115 (E := E)) (by decide +kernel) (ha_115 (E := E)) (hw_115 (E := E)) (fun H locs w => ?_)
    refine lv_icmp_eq (tgt := 833) hx hb dL_law_762 (by decide) (fun _ => ?_) (fun h => absurd (s_along R) h)
    exact next _ _ _ _ _ _ _ _ _ _ _ _ _ _ _ _ R w (lv_sub hl [0, 1, 2, 3] rfl)
  · refine lv_iconst (v := 1) hx hb dL_law_722 (by decide) ?_
    refine lv_goto (tgt := 727) hx hb dL_law_723 (by decide) ?_
    refine r_ci w (r_runV (As := [.int (xs ((nI i) + 1).toNatClampNeg), .int (xs ((nI i) + 2).toNatClampNeg), .int (xs ((nI i) + 3).toNatClampNeg), .int 1]) (rest := []) X w (kX6_along l E h (a1 0) (a2 0) (a3 0) (ah 0) (a5 0) k hs j z sp d (xs ((nI i) + 1).toNatClampNeg) (xs ((nI i) + 2).toNatClampNeg) (xs ((nI i) + 3).toNatClampNeg) 1 ) ck_L_91 ⟨Nat.le_of_ble_eq_true rfl, Nat.le_of_ble_eq_true rfl⟩ [0, 70, 71] (hc_124 (E := E)) (by decide +kernel) (k0 := 0) CL6 rfl hl.1 (Nat.le_of_ble_eq_true rfl) rfl dL_law_727 ⟨Nat.le_of_ble_eq_true rfl, Nat.le_of_ble_eq_true rfl⟩) (wHb h (a1 0) (a2 0) (a3 0) (ah 0) (a5 0) k hs ++ (wSt E a1 σ ++ (wSt E a2 σn ++ (wSt E a3 σr ++ (wHs E ah hh ny o η ++ (wTx E a5 t ++ (wSh k j z sp ++ (wWk j ((fX6_along hs z sp d (xs ((nI i) + 1).toNatClampNeg) (xs ((nI i) + 2).toNatClampNeg) (xs ((nI i) + 3).toNatClampNeg) 1).2) ++ wMd E am μ sp2)))))))) [0, 70, 71] (hc_124 (E := E)) (by decide +kernel) (ha_124 (E := E)) (hw_124 (E := E)) (fun H locs w => ?_)
    refine lv_aload_n hx hb dL_law_730 rfl (lv_at hl 1 rfl) ?_
    refine lv_aload_n hx hb dL_law_731 rfl (lv_at hl 3 rfl) ?_
    refine lv_iload_n hx hb dL_law_732 rfl (lv_at hl 0 rfl) ?_
    refine lv_iconst (v := 1) hx hb dL_law_733 (by decide) ?_
    refine lv_iadd hx hb dL_law_734 ?_
    refine va_sld hx hb hX hbl hbA w.2.2 (sx_ix (k := 1) 1 rfl (by decide) hi hL) dL_law_735 ?_
    refine lv_aload_n hx hb dL_law_736 rfl (lv_at hl 3 rfl) ?_
    refine lv_iload_n hx hb dL_law_737 rfl (lv_at hl 0 rfl) ?_
    refine lv_iconst (v := 2) hx hb dL_law_738 (by decide) ?_
    refine lv_iadd hx hb dL_law_739 ?_
    refine va_sld hx hb hX hbl hbA w.2.2 (sx_ix (k := 2) 2 rfl (by decide) hi hL) dL_law_740 ?_
    refine lv_aload_n hx hb dL_law_741 rfl (lv_at hl 3 rfl) ?_
    refine lv_iload_n hx hb dL_law_742 rfl (lv_at hl 0 rfl) ?_
    refine lv_iconst (v := 3) hx hb dL_law_743 (by decide) ?_
    refine lv_iadd hx hb dL_law_744 ?_
    refine va_sld hx hb hX hbl hbA w.2.2 (sx_ix (k := 3) 3 rfl (by decide) hi hL) dL_law_745 ?_
    refine lv_aload_n hx hb dL_law_746 rfl (lv_at hl 3 rfl) ?_
    refine lv_iload_n hx hb dL_law_747 rfl (lv_at hl 0 rfl) ?_
    refine lv_iconst (v := 4) hx hb dL_law_748 (by decide) ?_
    refine lv_iadd hx hb dL_law_749 ?_
    refine va_sld hx hb hX hbl hbA w.2.2 (sx_ix (k := 4) 4 rfl (by decide) hi hL) dL_law_750 ?_
    refine lv_if_eq (tgt := 758) hx hb dL_law_751 (by decide) (fun h => absurd h c719_1) (fun _ => ?_)
    refine lv_iconst (v := 1) hx hb dL_law_754 (by decide) ?_
    refine lv_goto (tgt := 759) hx hb dL_law_755 (by decide) ?_
    refine r_ci w (r_runV (As := [.int (xs ((nI i) + 1).toNatClampNeg), .int (xs ((nI i) + 2).toNatClampNeg), .int (xs ((nI i) + 3).toNatClampNeg), .int 1]) (rest := [.int ((fX6_along hs z sp d (xs ((nI i) + 1).toNatClampNeg) (xs ((nI i) + 2).toNatClampNeg) (xs ((nI i) + 3).toNatClampNeg) 1).1)]) X w (kX7_along l E am μ sp2 (xs ((nI i) + 1).toNatClampNeg) (xs ((nI i) + 2).toNatClampNeg) (xs ((nI i) + 3).toNatClampNeg) 1 (REL_gTab R)) ck_L_95 ⟨Nat.le_of_ble_eq_true rfl, Nat.le_of_ble_eq_true rfl⟩ [72, 73, 74, 75, 76, 77, 78, 79, 80, 81] (hc_115 (E := E)) (by decide +kernel) (k0 := 0) CL7 rfl hl.1 (Nat.le_of_ble_eq_true rfl) rfl dL_law_759 ⟨Nat.le_of_ble_eq_true rfl, Nat.le_of_ble_eq_true rfl⟩) (wHb h (a1 0) (a2 0) (a3 0) (ah 0) (a5 0) k hs ++ (wSt E a1 σ ++ (wSt E a2 σn ++ (wSt E a3 σr ++ (wHs E ah hh ny o η ++ (wTx E a5 t ++ (wSh k j z sp ++ (wWk j ((fX6_along hs z sp d (xs ((nI i) + 1).toNatClampNeg) (xs ((nI i) + 2).toNatClampNeg) (xs ((nI i) + 3).toNatClampNeg) 1).2) ++ wMd E am μ sp2)))))))) [72, 73, 74, 75, 76, 77, 78, 79, 80, 81] (hc_115 (E := E)) (by decide +kernel) (ha_115 (E := E)) (hw_115 (E := E)) (fun H locs w => ?_)
    refine lv_icmp_eq (tgt := 833) hx hb dL_law_762 (by decide) (fun _ => ?_) (fun h => absurd (s_along R) h)
    exact next _ _ _ _ _ _ _ _ _ _ _ _ _ _ _ _ R w (lv_sub hl [0, 1, 2, 3] rfl)
theorem dL_law_767 : decode code 767 = .ok (.aload_n 1, 1) := by decide +kernel
theorem dL_law_768 : decode code 768 = .ok (.aload_n 0, 1) := by decide +kernel
theorem dL_law_769 : decode code 769 = .ok (.iload_n 3, 1) := by decide +kernel
theorem dL_law_770 : decode code 770 = .ok (.iconst 1, 1) := by decide +kernel
theorem dL_law_771 : decode code 771 = .ok (.iadd, 1) := by decide +kernel
theorem dL_law_772 : decode code 772 = .ok (.iaload, 1) := by decide +kernel
theorem dL_law_773 : decode code 773 = .ok (.aload_n 0, 1) := by decide +kernel
theorem dL_law_774 : decode code 774 = .ok (.iload_n 3, 1) := by decide +kernel
theorem dL_law_775 : decode code 775 = .ok (.iconst 2, 1) := by decide +kernel
theorem dL_law_776 : decode code 776 = .ok (.iadd, 1) := by decide +kernel
theorem dL_law_777 : decode code 777 = .ok (.iaload, 1) := by decide +kernel
theorem dL_law_778 : decode code 778 = .ok (.aload_n 0, 1) := by decide +kernel
theorem dL_law_779 : decode code 779 = .ok (.iload_n 3, 1) := by decide +kernel
theorem dL_law_780 : decode code 780 = .ok (.iconst 3, 1) := by decide +kernel
theorem dL_law_781 : decode code 781 = .ok (.iadd, 1) := by decide +kernel
theorem dL_law_782 : decode code 782 = .ok (.iaload, 1) := by decide +kernel
theorem dL_law_783 : decode code 783 = .ok (.invokevirtual 96, 3) := by decide +kernel
theorem dL_law_786 : decode code 786 = .ok (.aload_n 2, 1) := by decide +kernel
theorem dL_law_787 : decode code 787 = .ok (.aload_n 0, 1) := by decide +kernel
theorem dL_law_788 : decode code 788 = .ok (.iload_n 3, 1) := by decide +kernel
theorem dL_law_789 : decode code 789 = .ok (.iconst 1, 1) := by decide +kernel
theorem dL_law_790 : decode code 790 = .ok (.iadd, 1) := by decide +kernel
theorem dL_law_791 : decode code 791 = .ok (.iaload, 1) := by decide +kernel
theorem dL_law_792 : decode code 792 = .ok (.aload_n 0, 1) := by decide +kernel
theorem dL_law_793 : decode code 793 = .ok (.iload_n 3, 1) := by decide +kernel
theorem dL_law_794 : decode code 794 = .ok (.iconst 2, 1) := by decide +kernel
theorem dL_law_795 : decode code 795 = .ok (.iadd, 1) := by decide +kernel
theorem dL_law_796 : decode code 796 = .ok (.iaload, 1) := by decide +kernel
theorem dL_law_797 : decode code 797 = .ok (.aload_n 0, 1) := by decide +kernel
theorem dL_law_798 : decode code 798 = .ok (.iload_n 3, 1) := by decide +kernel
theorem dL_law_799 : decode code 799 = .ok (.iconst 3, 1) := by decide +kernel
theorem dL_law_800 : decode code 800 = .ok (.iadd, 1) := by decide +kernel
theorem dL_law_801 : decode code 801 = .ok (.iaload, 1) := by decide +kernel
theorem dL_law_802 : decode code 802 = .ok (.invokevirtual 100, 3) := by decide +kernel
theorem dL_law_805 : decode code 805 = .ok (.if_icmp .eq 28, 3) := by decide +kernel
theorem ck_L_96 : CkV RL 96 RX6 yX6_best cX6_best 10 (some .int) 3 := ⟨wm_L_96, wim_yX6_best, wse_yX6_best, wi_X6, wc_yX6_best, by decide +kernel⟩
theorem ck_L_100 : CkV RL 100 RX7 yX7_best cX7_best 8 (some .int) 3 := ⟨wm_L_100, wim_yX7_best, wse_yX7_best, wi_X7, wc_yX7_best, by decide +kernel⟩
set_option maxHeartbeats 4000000 in
set_option maxRecDepth 100000 in
theorem law_best (X : Cx p m meth c code 8 s #[Value.ref b] RL E (lwA s)) (hX : va_X b L xs s s.heap) (hbl : b < s.heap.size) (hL : L ≤ 3072) (hi : i + 6 ≤ L) (R : REL hs σ σn ny o η t μ) (w : Wd E (lwA s) s (wHb h (a1 0) (a2 0) (a3 0) (ah 0) (a5 0) k hs ++ (wSt E a1 σ ++ (wSt E a2 σn ++ (wSt E a3 σr ++ (wHs E ah hh ny o η ++ (wTx E a5 t ++ (wSh k j z sp ++ (wWk j d ++ wMd E am μ sp2)))))))) H locs) (hl : lv_has ls 8 [(3, .int (nI i)), (2, .ref (am 0)), (1, .ref h), (0, .ref b)]) (next : NX p l e s m b below meth c E h k j a1 a2 a3 ah a5 am hh i) : W p l e room_1 s m #[Value.ref b] below meth c H locs 82 1976 (lw_Z below #[Value.ref b] s) (F0 m 767 ls []) := by
  have hx := X.1
  have hb := X.2.1
  have hbA : ¬ lwA s b := lwA_out s b hbl
  refine lv_aload_n hx hb dL_law_767 rfl (lv_at hl 2 rfl) ?_
  refine lv_aload_n hx hb dL_law_768 rfl (lv_at hl 3 rfl) ?_
  refine lv_iload_n hx hb dL_law_769 rfl (lv_at hl 0 rfl) ?_
  refine lv_iconst (v := 1) hx hb dL_law_770 (by decide) ?_
  refine lv_iadd hx hb dL_law_771 ?_
  refine va_sld hx hb hX hbl hbA w.2.2 (sx_ix (k := 1) 1 rfl (by decide) hi hL) dL_law_772 ?_
  refine lv_aload_n hx hb dL_law_773 rfl (lv_at hl 3 rfl) ?_
  refine lv_iload_n hx hb dL_law_774 rfl (lv_at hl 0 rfl) ?_
  refine lv_iconst (v := 2) hx hb dL_law_775 (by decide) ?_
  refine lv_iadd hx hb dL_law_776 ?_
  refine va_sld hx hb hX hbl hbA w.2.2 (sx_ix (k := 2) 2 rfl (by decide) hi hL) dL_law_777 ?_
  refine lv_aload_n hx hb dL_law_778 rfl (lv_at hl 3 rfl) ?_
  refine lv_iload_n hx hb dL_law_779 rfl (lv_at hl 0 rfl) ?_
  refine lv_iconst (v := 3) hx hb dL_law_780 (by decide) ?_
  refine lv_iadd hx hb dL_law_781 ?_
  refine va_sld hx hb hX hbl hbA w.2.2 (sx_ix (k := 3) 3 rfl (by decide) hi hL) dL_law_782 ?_
  refine r_ci w (r_runV (As := [.int (xs ((nI i) + 1).toNatClampNeg), .int (xs ((nI i) + 2).toNatClampNeg), .int (xs ((nI i) + 3).toNatClampNeg)]) (rest := []) X w (kX6_best l E h (a2 0) (ah 0) (a5 0) k hs a1 σ a3 σr j z sp d (xs ((nI i) + 1).toNatClampNeg) (xs ((nI i) + 2).toNatClampNeg) (xs ((nI i) + 3).toNatClampNeg) (REL_gs R)) ck_L_96 ⟨Nat.le_of_ble_eq_true rfl, Nat.le_of_ble_eq_true rfl⟩ [0, 1, 2, 3, 4, 5, 6, 7, 8, 9, 19, 20, 21, 22, 23, 24, 25, 26, 27, 70, 71] (hc_123 (E := E)) (by decide +kernel) (k0 := 0) CL6 rfl hl.1 (Nat.le_of_ble_eq_true rfl) rfl dL_law_783 ⟨Nat.le_of_ble_eq_true rfl, Nat.le_of_ble_eq_true rfl⟩) (wHb h (a1 0) (a2 0) (a3 0) (ah 0) (a5 0) k hs ++ (wSt E a1 σ ++ (wSt E a2 σn ++ (wSt E a3 ((fX6_best hs σ σr z sp d (xs ((nI i) + 1).toNatClampNeg) (xs ((nI i) + 2).toNatClampNeg) (xs ((nI i) + 3).toNatClampNeg)).2.1) ++ (wHs E ah hh ny o η ++ (wTx E a5 t ++ (wSh k j ((fX6_best hs σ σr z sp d (xs ((nI i) + 1).toNatClampNeg) (xs ((nI i) + 2).toNatClampNeg) (xs ((nI i) + 3).toNatClampNeg)).2.2.1) ((fX6_best hs σ σr z sp d (xs ((nI i) + 1).toNatClampNeg) (xs ((nI i) + 2).toNatClampNeg) (xs ((nI i) + 3).toNatClampNeg)).2.2.2.1) ++ (wWk j ((fX6_best hs σ σr z sp d (xs ((nI i) + 1).toNatClampNeg) (xs ((nI i) + 2).toNatClampNeg) (xs ((nI i) + 3).toNatClampNeg)).2.2.2.2) ++ wMd E am μ sp2)))))))) [0, 1, 2, 3, 4, 5, 6, 7, 8, 9, 19, 20, 21, 22, 23, 24, 25, 26, 27, 70, 71] (hc_123 (E := E)) (by decide +kernel) (ha_123 (E := E)) (hw_123 (E := E)) (fun H locs w => ?_)
  refine lv_aload_n hx hb dL_law_786 rfl (lv_at hl 1 rfl) ?_
  refine lv_aload_n hx hb dL_law_787 rfl (lv_at hl 3 rfl) ?_
  refine lv_iload_n hx hb dL_law_788 rfl (lv_at hl 0 rfl) ?_
  refine lv_iconst (v := 1) hx hb dL_law_789 (by decide) ?_
  refine lv_iadd hx hb dL_law_790 ?_
  refine va_sld hx hb hX hbl hbA w.2.2 (sx_ix (k := 1) 1 rfl (by decide) hi hL) dL_law_791 ?_
  refine lv_aload_n hx hb dL_law_792 rfl (lv_at hl 3 rfl) ?_
  refine lv_iload_n hx hb dL_law_793 rfl (lv_at hl 0 rfl) ?_
  refine lv_iconst (v := 2) hx hb dL_law_794 (by decide) ?_
  refine lv_iadd hx hb dL_law_795 ?_
  refine va_sld hx hb hX hbl hbA w.2.2 (sx_ix (k := 2) 2 rfl (by decide) hi hL) dL_law_796 ?_
  refine lv_aload_n hx hb dL_law_797 rfl (lv_at hl 3 rfl) ?_
  refine lv_iload_n hx hb dL_law_798 rfl (lv_at hl 0 rfl) ?_
  refine lv_iconst (v := 3) hx hb dL_law_799 (by decide) ?_
  refine lv_iadd hx hb dL_law_800 ?_
  refine va_sld hx hb hX hbl hbA w.2.2 (sx_ix (k := 3) 3 rfl (by decide) hi hL) dL_law_801 ?_
  refine r_ci w (r_runV (As := [.int (xs ((nI i) + 1).toNatClampNeg), .int (xs ((nI i) + 2).toNatClampNeg), .int (xs ((nI i) + 3).toNatClampNeg)]) (rest := [.int ((fX6_best hs σ σr z sp d (xs ((nI i) + 1).toNatClampNeg) (xs ((nI i) + 2).toNatClampNeg) (xs ((nI i) + 3).toNatClampNeg)).1)]) X w (kX7_best l E am μ sp2 (xs ((nI i) + 1).toNatClampNeg) (xs ((nI i) + 2).toNatClampNeg) (xs ((nI i) + 3).toNatClampNeg) (REL_gA R) (REL_gTab R)) ck_L_100 ⟨Nat.le_of_ble_eq_true rfl, Nat.le_of_ble_eq_true rfl⟩ [72, 73, 74, 75, 76, 77, 78, 79, 80, 81] (hc_115 (E := E)) (by decide +kernel) (k0 := 0) CL7 rfl hl.1 (Nat.le_of_ble_eq_true rfl) rfl dL_law_802 ⟨Nat.le_of_ble_eq_true rfl, Nat.le_of_ble_eq_true rfl⟩) (wHb h (a1 0) (a2 0) (a3 0) (ah 0) (a5 0) k hs ++ (wSt E a1 σ ++ (wSt E a2 σn ++ (wSt E a3 ((fX6_best hs σ σr z sp d (xs ((nI i) + 1).toNatClampNeg) (xs ((nI i) + 2).toNatClampNeg) (xs ((nI i) + 3).toNatClampNeg)).2.1) ++ (wHs E ah hh ny o η ++ (wTx E a5 t ++ (wSh k j ((fX6_best hs σ σr z sp d (xs ((nI i) + 1).toNatClampNeg) (xs ((nI i) + 2).toNatClampNeg) (xs ((nI i) + 3).toNatClampNeg)).2.2.1) ((fX6_best hs σ σr z sp d (xs ((nI i) + 1).toNatClampNeg) (xs ((nI i) + 2).toNatClampNeg) (xs ((nI i) + 3).toNatClampNeg)).2.2.2.1) ++ (wWk j ((fX6_best hs σ σr z sp d (xs ((nI i) + 1).toNatClampNeg) (xs ((nI i) + 2).toNatClampNeg) (xs ((nI i) + 3).toNatClampNeg)).2.2.2.2) ++ wMd E am ((fX7_best μ sp2 (xs ((nI i) + 1).toNatClampNeg) (xs ((nI i) + 2).toNatClampNeg) (xs ((nI i) + 3).toNatClampNeg)).2.1) ((fX7_best μ sp2 (xs ((nI i) + 1).toNatClampNeg) (xs ((nI i) + 2).toNatClampNeg) (xs ((nI i) + 3).toNatClampNeg)).2.2))))))))) [72, 73, 74, 75, 76, 77, 78, 79, 80, 81] (hc_115 (E := E)) (by decide +kernel) (ha_115 (E := E)) (hw_115 (E := E)) (fun H locs w => ?_)
  refine lv_icmp_eq (tgt := 833) hx hb dL_law_805 (by decide) (fun _ => ?_) (fun h => absurd (s_best R).1 h)
  exact next _ _ _ _ _ _ _ _ _ _ _ _ _ _ _ _ (s_best (σr := σr) (z := z) (d := d) (sp2 := sp) R).2 w (lv_sub hl [0, 1, 2, 3] rfl)
theorem dL_law_810 : decode code 810 = .ok (.aload_n 1, 1) := by decide +kernel
theorem dL_law_811 : decode code 811 = .ok (.aload_n 0, 1) := by decide +kernel
theorem dL_law_812 : decode code 812 = .ok (.iload_n 3, 1) := by decide +kernel
theorem dL_law_813 : decode code 813 = .ok (.iconst 1, 1) := by decide +kernel
theorem dL_law_814 : decode code 814 = .ok (.iadd, 1) := by decide +kernel
theorem dL_law_815 : decode code 815 = .ok (.iaload, 1) := by decide +kernel
theorem dL_law_816 : decode code 816 = .ok (.invokevirtual 101, 3) := by decide +kernel
theorem dL_law_819 : decode code 819 = .ok (.aload_n 2, 1) := by decide +kernel
theorem dL_law_820 : decode code 820 = .ok (.aload_n 0, 1) := by decide +kernel
theorem dL_law_821 : decode code 821 = .ok (.iload_n 3, 1) := by decide +kernel
theorem dL_law_822 : decode code 822 = .ok (.iconst 1, 1) := by decide +kernel
theorem dL_law_823 : decode code 823 = .ok (.iadd, 1) := by decide +kernel
theorem dL_law_824 : decode code 824 = .ok (.iaload, 1) := by decide +kernel
theorem dL_law_825 : decode code 825 = .ok (.invokevirtual 104, 3) := by decide +kernel
theorem dL_law_828 : decode code 828 = .ok (.if_icmp .eq 5, 3) := by decide +kernel
theorem ck_L_101 : CkV RL 101 RX6 yX6_count cX6_count 2 (some .int) 1 := ⟨wm_L_101, wim_yX6_count, wse_yX6_count, wi_X6, wc_yX6_count, by decide +kernel⟩
theorem ck_L_104 : CkV RL 104 RX7 yX7_count cX7_count 2 (some .int) 1 := ⟨wm_L_104, wim_yX7_count, wse_yX7_count, wi_X7, wc_yX7_count, by decide +kernel⟩
theorem hc_125 {E : Ev} {a0 p0_0 p0_1 p0_2 p0_3 p0_4 p0_5 : Nat} {n0 : Int32} {a1 : Nat → Nat} {σ1 : N2} {a2 : Nat → Nat} {σ2 : N2} {a3 : Nat → Nat} {σ3 : N2} {a4 : Nat → Nat} {h4 : Nat → Nat → Nat} {n4 : Int32} {η4 : Nat → N2} {o4 : Nat} {a5 : Nat → Nat} {σ5 : N2} {a6 j6 : Nat} {σ6 : N1} {v6 : UInt32} {a7 : Nat} {σ7 : N1} {a8 : Nat → Nat} {σ8 : N2} {v8 : UInt32} : ([0, 1, 2, 3, 4, 5, 6, 7, 8, 9, 28, 29, 30, 31, 32, 33, 34, 35, 36, 37, 38, 39, 40, 41, 42, 43, 44, 45, 46, 47, 48, 49, 50, 51, 52, 53, 54, 55, 56, 57, 58, 59, 60, 61, 62, 63, 64, 65, 66, 67, 68, 69] : List Nat).map (fun i => (wHb a0 p0_0 p0_1 p0_2 p0_3 p0_4 p0_5 n0 ++ (wSt E a1 σ1 ++ (wSt E a2 σ2 ++ (wSt E a3 σ3 ++ (wHs E a4 h4 n4 o4 η4 ++ (wTx E a5 σ5 ++ (wSh a6 j6 σ6 v6 ++ (wWk a7 σ7 ++ wMd E a8 σ8 v8))))))))[i]?) = (wHb a0 p0_0 p0_1 p0_2 p0_3 p0_4 p0_5 n0 ++ (wSt E a1 σ1 ++ (wHs E a4 h4 n4 o4 η4 ++ wTx E a5 σ5))).map some := get_app (is1 := rg 0 1) (is2 := rg 1 9 ++ (rg 28 38 ++ (rg 66 4))) (by rw [show wHb a0 p0_0 p0_1 p0_2 p0_3 p0_4 p0_5 n0 ++ (wSt E a1 σ1 ++ (wSt E a2 σ2 ++ (wSt E a3 σ3 ++ (wHs E a4 h4 n4 o4 η4 ++ (wTx E a5 σ5 ++ (wSh a6 j6 σ6 v6 ++ (wWk a7 σ7 ++ (wMd E a8 σ8 v8)))))))) = ([] : va_W) ++ (wHb a0 p0_0 p0_1 p0_2 p0_3 p0_4 p0_5 n0 ++ (wSt E a1 σ1 ++ (wSt E a2 σ2 ++ (wSt E a3 σ3 ++ (wHs E a4 h4 n4 o4 η4 ++ (wTx E a5 σ5 ++ (wSh a6 j6 σ6 v6 ++ (wWk a7 σ7 ++ (wMd E a8 σ8 v8))))))))) by simp only [List.append_assoc, List.nil_append, List.append_nil]]; exact get1 (s := 0) (n := 1) rfl rfl) (get_app (is1 := rg 1 9) (is2 := rg 28 38 ++ (rg 66 4)) (by rw [show wHb a0 p0_0 p0_1 p0_2 p0_3 p0_4 p0_5 n0 ++ (wSt E a1 σ1 ++ (wSt E a2 σ2 ++ (wSt E a3 σ3 ++ (wHs E a4 h4 n4 o4 η4 ++ (wTx E a5 σ5 ++ (wSh a6 j6 σ6 v6 ++ (wWk a7 σ7 ++ (wMd E a8 σ8 v8)))))))) = (wHb a0 p0_0 p0_1 p0_2 p0_3 p0_4 p0_5 n0) ++ (wSt E a1 σ1 ++ (wSt E a2 σ2 ++ (wSt E a3 σ3 ++ (wHs E a4 h4 n4 o4 η4 ++ (wTx E a5 σ5 ++ (wSh a6 j6 σ6 v6 ++ (wWk a7 σ7 ++ (wMd E a8 σ8 v8)))))))) by simp only [List.append_assoc, List.nil_append, List.append_nil]]; exact get1 (s := 1) (n := 9) rfl rfl) (get_app (is1 := rg 28 38) (is2 := rg 66 4) (by rw [show wHb a0 p0_0 p0_1 p0_2 p0_3 p0_4 p0_5 n0 ++ (wSt E a1 σ1 ++ (wSt E a2 σ2 ++ (wSt E a3 σ3 ++ (wHs E a4 h4 n4 o4 η4 ++ (wTx E a5 σ5 ++ (wSh a6 j6 σ6 v6 ++ (wWk a7 σ7 ++ (wMd E a8 σ8 v8)))))))) = (wHb a0 p0_0 p0_1 p0_2 p0_3 p0_4 p0_5 n0 ++ (wSt E a1 σ1 ++ (wSt E a2 σ2 ++ (wSt E a3 σ3)))) ++ (wHs E a4 h4 n4 o4 η4 ++ (wTx E a5 σ5 ++ (wSh a6 j6 σ6 v6 ++ (wWk a7 σ7 ++ (wMd E a8 σ8 v8))))) by simp only [List.append_assoc, List.nil_append, List.append_nil]]; exact get1 (s := 28) (n := 38) rfl rfl) ((by rw [show wHb a0 p0_0 p0_1 p0_2 p0_3 p0_4 p0_5 n0 ++ (wSt E a1 σ1 ++ (wSt E a2 σ2 ++ (wSt E a3 σ3 ++ (wHs E a4 h4 n4 o4 η4 ++ (wTx E a5 σ5 ++ (wSh a6 j6 σ6 v6 ++ (wWk a7 σ7 ++ (wMd E a8 σ8 v8)))))))) = (wHb a0 p0_0 p0_1 p0_2 p0_3 p0_4 p0_5 n0 ++ (wSt E a1 σ1 ++ (wSt E a2 σ2 ++ (wSt E a3 σ3 ++ (wHs E a4 h4 n4 o4 η4))))) ++ (wTx E a5 σ5 ++ (wSh a6 j6 σ6 v6 ++ (wWk a7 σ7 ++ (wMd E a8 σ8 v8)))) by simp only [List.append_assoc, List.nil_append, List.append_nil]]; exact get1 (s := 66) (n := 4) rfl rfl))))
theorem ha_125 {E : Ev} {a0 p0_0 p0_1 p0_2 p0_3 p0_4 p0_5 : Nat} {n0 : Int32} {a1 : Nat → Nat} {σ1 : N2} {a4 : Nat → Nat} {h4 : Nat → Nat → Nat} {n4 : Int32} {η4 : Nat → N2} {o4 : Nat} {a5 : Nat → Nat} {σ5 : N2} {τ0_0 : Int32} {τ1_0 : N2} {τ2_0 : Int32} {τ2_1 : Nat} {τ2_2 : Nat → N2} {τ3_0 : N2} : (wHb a0 p0_0 p0_1 p0_2 p0_3 p0_4 p0_5 τ0_0 ++ (wSt E a1 τ1_0 ++ (wHs E a4 h4 τ2_0 τ2_1 τ2_2 ++ wTx E a5 τ3_0))).map Prod.fst = (wHb a0 p0_0 p0_1 p0_2 p0_3 p0_4 p0_5 n0 ++ (wSt E a1 σ1 ++ (wHs E a4 h4 n4 o4 η4 ++ wTx E a5 σ5))).map Prod.fst := fst_app fst_Hb (fst_app fst_St (fst_app fst_Hs (fst_Tx)))
theorem hw_125 {E : Ev} {a0 p0_0 p0_1 p0_2 p0_3 p0_4 p0_5 : Nat} {n0 : Int32} {a1 : Nat → Nat} {σ1 : N2} {a2 : Nat → Nat} {σ2 : N2} {a3 : Nat → Nat} {σ3 : N2} {a4 : Nat → Nat} {h4 : Nat → Nat → Nat} {n4 : Int32} {η4 : Nat → N2} {o4 : Nat} {a5 : Nat → Nat} {σ5 : N2} {a6 j6 : Nat} {σ6 : N1} {v6 : UInt32} {a7 : Nat} {σ7 : N1} {a8 : Nat → Nat} {σ8 : N2} {v8 : UInt32} {τ0_0 : Int32} {τ1_0 : N2} {τ2_0 : Int32} {τ2_1 : Nat} {τ2_2 : Nat → N2} {τ3_0 : N2} : wput (wHb a0 p0_0 p0_1 p0_2 p0_3 p0_4 p0_5 n0 ++ (wSt E a1 σ1 ++ (wSt E a2 σ2 ++ (wSt E a3 σ3 ++ (wHs E a4 h4 n4 o4 η4 ++ (wTx E a5 σ5 ++ (wSh a6 j6 σ6 v6 ++ (wWk a7 σ7 ++ wMd E a8 σ8 v8)))))))) [0, 1, 2, 3, 4, 5, 6, 7, 8, 9, 28, 29, 30, 31, 32, 33, 34, 35, 36, 37, 38, 39, 40, 41, 42, 43, 44, 45, 46, 47, 48, 49, 50, 51, 52, 53, 54, 55, 56, 57, 58, 59, 60, 61, 62, 63, 64, 65, 66, 67, 68, 69] (wHb a0 p0_0 p0_1 p0_2 p0_3 p0_4 p0_5 τ0_0 ++ (wSt E a1 τ1_0 ++ (wHs E a4 h4 τ2_0 τ2_1 τ2_2 ++ wTx E a5 τ3_0))) = wHb a0 p0_0 p0_1 p0_2 p0_3 p0_4 p0_5 τ0_0 ++ (wSt E a1 τ1_0 ++ (wSt E a2 σ2 ++ (wSt E a3 σ3 ++ (wHs E a4 h4 τ2_0 τ2_1 τ2_2 ++ (wTx E a5 τ3_0 ++ (wSh a6 j6 σ6 v6 ++ (wWk a7 σ7 ++ wMd E a8 σ8 v8))))))) := by
  show wput (wHb a0 p0_0 p0_1 p0_2 p0_3 p0_4 p0_5 n0 ++ (wSt E a1 σ1 ++ (wSt E a2 σ2 ++ (wSt E a3 σ3 ++ (wHs E a4 h4 n4 o4 η4 ++ (wTx E a5 σ5 ++ (wSh a6 j6 σ6 v6 ++ (wWk a7 σ7 ++ (wMd E a8 σ8 v8))))))))) (rg 0 1 ++ (rg 1 9 ++ (rg 28 38 ++ (rg 66 4)))) (wHb a0 p0_0 p0_1 p0_2 p0_3 p0_4 p0_5 τ0_0 ++ (wSt E a1 τ1_0 ++ (wHs E a4 h4 τ2_0 τ2_1 τ2_2 ++ wTx E a5 τ3_0))) = _
  rw [wput_app rfl]
  rw [show wHb a0 p0_0 p0_1 p0_2 p0_3 p0_4 p0_5 n0 ++ (wSt E a1 σ1 ++ (wSt E a2 σ2 ++ (wSt E a3 σ3 ++ (wHs E a4 h4 n4 o4 η4 ++ (wTx E a5 σ5 ++ (wSh a6 j6 σ6 v6 ++ (wWk a7 σ7 ++ (wMd E a8 σ8 v8)))))))) = ([] : va_W) ++ (wHb a0 p0_0 p0_1 p0_2 p0_3 p0_4 p0_5 n0 ++ (wSt E a1 σ1 ++ (wSt E a2 σ2 ++ (wSt E a3 σ3 ++ (wHs E a4 h4 n4 o4 η4 ++ (wTx E a5 σ5 ++ (wSh a6 j6 σ6 v6 ++ (wWk a7 σ7 ++ (wMd E a8 σ8 v8))))))))) by simp only [List.append_assoc, List.nil_append, List.append_nil], put1 (s := 0) (n := 1) rfl rfl rfl]
  rw [wput_app rfl]
  rw [show ([] : va_W) ++ (wHb a0 p0_0 p0_1 p0_2 p0_3 p0_4 p0_5 τ0_0 ++ (wSt E a1 σ1 ++ (wSt E a2 σ2 ++ (wSt E a3 σ3 ++ (wHs E a4 h4 n4 o4 η4 ++ (wTx E a5 σ5 ++ (wSh a6 j6 σ6 v6 ++ (wWk a7 σ7 ++ (wMd E a8 σ8 v8))))))))) = (wHb a0 p0_0 p0_1 p0_2 p0_3 p0_4 p0_5 τ0_0) ++ (wSt E a1 σ1 ++ (wSt E a2 σ2 ++ (wSt E a3 σ3 ++ (wHs E a4 h4 n4 o4 η4 ++ (wTx E a5 σ5 ++ (wSh a6 j6 σ6 v6 ++ (wWk a7 σ7 ++ (wMd E a8 σ8 v8)))))))) by simp only [List.append_assoc, List.nil_append, List.append_nil], put1 (s := 1) (n := 9) rfl rfl rfl]
  rw [wput_app rfl]
  rw [show (wHb a0 p0_0 p0_1 p0_2 p0_3 p0_4 p0_5 τ0_0) ++ (wSt E a1 τ1_0 ++ (wSt E a2 σ2 ++ (wSt E a3 σ3 ++ (wHs E a4 h4 n4 o4 η4 ++ (wTx E a5 σ5 ++ (wSh a6 j6 σ6 v6 ++ (wWk a7 σ7 ++ (wMd E a8 σ8 v8)))))))) = (wHb a0 p0_0 p0_1 p0_2 p0_3 p0_4 p0_5 τ0_0 ++ (wSt E a1 τ1_0 ++ (wSt E a2 σ2 ++ (wSt E a3 σ3)))) ++ (wHs E a4 h4 n4 o4 η4 ++ (wTx E a5 σ5 ++ (wSh a6 j6 σ6 v6 ++ (wWk a7 σ7 ++ (wMd E a8 σ8 v8))))) by simp only [List.append_assoc, List.nil_append, List.append_nil], put1 (s := 28) (n := 38) rfl rfl rfl]
  rw [show (wHb a0 p0_0 p0_1 p0_2 p0_3 p0_4 p0_5 τ0_0 ++ (wSt E a1 τ1_0 ++ (wSt E a2 σ2 ++ (wSt E a3 σ3)))) ++ (wHs E a4 h4 τ2_0 τ2_1 τ2_2 ++ (wTx E a5 σ5 ++ (wSh a6 j6 σ6 v6 ++ (wWk a7 σ7 ++ (wMd E a8 σ8 v8))))) = (wHb a0 p0_0 p0_1 p0_2 p0_3 p0_4 p0_5 τ0_0 ++ (wSt E a1 τ1_0 ++ (wSt E a2 σ2 ++ (wSt E a3 σ3 ++ (wHs E a4 h4 τ2_0 τ2_1 τ2_2))))) ++ (wTx E a5 σ5 ++ (wSh a6 j6 σ6 v6 ++ (wWk a7 σ7 ++ (wMd E a8 σ8 v8)))) by simp only [List.append_assoc, List.nil_append, List.append_nil], put1 (s := 66) (n := 4) rfl rfl rfl]
  try simp only [List.append_assoc, List.nil_append, List.append_nil]
set_option maxHeartbeats 4000000 in
set_option maxRecDepth 100000 in
theorem law_count (X : Cx p m meth c code 8 s #[Value.ref b] RL E (lwA s)) (hX : va_X b L xs s s.heap) (hbl : b < s.heap.size) (hL : L ≤ 3072) (hi : i + 6 ≤ L) (R : REL hs σ σn ny o η t μ) (w : Wd E (lwA s) s (wHb h (a1 0) (a2 0) (a3 0) (ah 0) (a5 0) k hs ++ (wSt E a1 σ ++ (wSt E a2 σn ++ (wSt E a3 σr ++ (wHs E ah hh ny o η ++ (wTx E a5 t ++ (wSh k j z sp ++ (wWk j d ++ wMd E am μ sp2)))))))) H locs) (hl : lv_has ls 8 [(3, .int (nI i)), (2, .ref (am 0)), (1, .ref h), (0, .ref b)]) (next : NX p l e s m b below meth c E h k j a1 a2 a3 ah a5 am hh i) : W p l e room_1 s m #[Value.ref b] below meth c H locs 82 1976 (lw_Z below #[Value.ref b] s) (F0 m 810 ls []) := by
  have hx := X.1
  have hb := X.2.1
  have hbA : ¬ lwA s b := lwA_out s b hbl
  refine lv_aload_n hx hb dL_law_810 rfl (lv_at hl 2 rfl) ?_
  refine lv_aload_n hx hb dL_law_811 rfl (lv_at hl 3 rfl) ?_
  refine lv_iload_n hx hb dL_law_812 rfl (lv_at hl 0 rfl) ?_
  refine lv_iconst (v := 1) hx hb dL_law_813 (by decide) ?_
  refine lv_iadd hx hb dL_law_814 ?_
  refine va_sld hx hb hX hbl hbA w.2.2 (sx_ix (k := 1) 1 rfl (by decide) hi hL) dL_law_815 ?_
  refine r_ci w (r_runV (As := [.int (xs ((nI i) + 1).toNatClampNeg)]) (rest := []) X w (kX6_count l E h (a2 0) (a3 0) k hs a1 σ ah hh ny o η a5 t (xs ((nI i) + 1).toNatClampNeg) ) ck_L_101 ⟨Nat.le_of_ble_eq_true rfl, Nat.le_of_ble_eq_true rfl⟩ [0, 1, 2, 3, 4, 5, 6, 7, 8, 9, 28, 29, 30, 31, 32, 33, 34, 35, 36, 37, 38, 39, 40, 41, 42, 43, 44, 45, 46, 47, 48, 49, 50, 51, 52, 53, 54, 55, 56, 57, 58, 59, 60, 61, 62, 63, 64, 65, 66, 67, 68, 69] (hc_125 (E := E)) (by decide +kernel) (k0 := 0) CL6 rfl hl.1 (Nat.le_of_ble_eq_true rfl) rfl dL_law_816 ⟨Nat.le_of_ble_eq_true rfl, Nat.le_of_ble_eq_true rfl⟩) (wHb h (a1 0) (a2 0) (a3 0) (ah 0) (a5 0) k hs ++ (wSt E a1 σ ++ (wSt E a2 σn ++ (wSt E a3 σr ++ (wHs E ah hh ny o η ++ (wTx E a5 t ++ (wSh k j z sp ++ (wWk j d ++ wMd E am μ sp2)))))))) [0, 1, 2, 3, 4, 5, 6, 7, 8, 9, 28, 29, 30, 31, 32, 33, 34, 35, 36, 37, 38, 39, 40, 41, 42, 43, 44, 45, 46, 47, 48, 49, 50, 51, 52, 53, 54, 55, 56, 57, 58, 59, 60, 61, 62, 63, 64, 65, 66, 67, 68, 69] (hc_125 (E := E)) (by decide +kernel) (ha_125 (E := E)) (hw_125 (E := E)) (fun H locs w => ?_)
  refine lv_aload_n hx hb dL_law_819 rfl (lv_at hl 1 rfl) ?_
  refine lv_aload_n hx hb dL_law_820 rfl (lv_at hl 3 rfl) ?_
  refine lv_iload_n hx hb dL_law_821 rfl (lv_at hl 0 rfl) ?_
  refine lv_iconst (v := 1) hx hb dL_law_822 (by decide) ?_
  refine lv_iadd hx hb dL_law_823 ?_
  refine va_sld hx hb hX hbl hbA w.2.2 (sx_ix (k := 1) 1 rfl (by decide) hi hL) dL_law_824 ?_
  refine r_ci w (r_runV (As := [.int (xs ((nI i) + 1).toNatClampNeg)]) (rest := [.int (fX6_count hs σ ny o η t (xs ((nI i) + 1).toNatClampNeg))]) X w (kX7_count l E am μ sp2 (xs ((nI i) + 1).toNatClampNeg) (REL_gE R)) ck_L_104 ⟨Nat.le_of_ble_eq_true rfl, Nat.le_of_ble_eq_true rfl⟩ [72, 73, 74, 75, 76, 77, 78, 79, 80, 81] (hc_115 (E := E)) (by decide +kernel) (k0 := 0) CL7 rfl hl.1 (Nat.le_of_ble_eq_true rfl) rfl dL_law_825 ⟨Nat.le_of_ble_eq_true rfl, Nat.le_of_ble_eq_true rfl⟩) (wHb h (a1 0) (a2 0) (a3 0) (ah 0) (a5 0) k hs ++ (wSt E a1 σ ++ (wSt E a2 σn ++ (wSt E a3 σr ++ (wHs E ah hh ny o η ++ (wTx E a5 t ++ (wSh k j z sp ++ (wWk j d ++ wMd E am μ sp2)))))))) [72, 73, 74, 75, 76, 77, 78, 79, 80, 81] (hc_115 (E := E)) (by decide +kernel) (ha_115 (E := E)) (hw_115 (E := E)) (fun H locs w => ?_)
  refine lv_icmp_eq (tgt := 833) hx hb dL_law_828 (by decide) (fun _ => ?_) (fun h => absurd (s_count R) h)
  exact next _ _ _ _ _ _ _ _ _ _ _ _ _ _ _ _ R w (lv_sub hl [0, 1, 2, 3] rfl)
end LW
