/-! p24: contracts that tell a world; the law's small methods (printed by wip/p24/p42.py) -/
/-- a contract: the answer and the world behind are in K -/
def QE (E : Ev) (wc : va_W) (K : Int32 → va_W → Prop) : Array Value → State → Outcome → State → Prop := va_Qi (fun (x : Int32) (w' : va_W) => K x w' ∧ w'.map Prod.fst = wc.map Prod.fst) (fun w' t => va_P E.1 vwCl w' t.heap) (hB wc)
section
variable {p : Program} {l : Launch} {e : Env} {R : Room} {s : State} {m : MethodId} {args : Array Value} {below : List Frame} {meth : Method} {c : Code} {H : Heap} {locs : List Loc} {cells slots : Nat} {Q : State → Prop}
variable {cc : ByteArray} {nL : Nat} {own : String} {E : Ev} {A : Nat → Prop} {ws wc wc' : va_W} {pc : Nat} {ls : Array Slot} {rest st0 : List Value}
theorem r_eret (X : Cx p m meth c cc nL s args own E (hB wc)) (w : Wd E (hB wc) s wc' H locs) (hr : meth.sig.returnType = some .boolean) {v : Int32} {K : Int32 → va_W → Prop} (hz : v = 0 ∨ v = 1) (hK : K v wc') (ha : wc'.map Prod.fst = wc.map Prod.fst) (hdg : decode cc pc = .ok (.ireturn, 1)) : W p l e R s m args below meth c H locs 0 0 (MQ below (QE E wc K) args s 0 0 (hB wc)) (F0 m pc ls [.int v]) :=
  W.zret X.1 X.2.1 hr (by rcases hz with rfl | rfl <;> rfl) (fun t ht hW => ⟨⟨v, wc', rfl, ⟨hK, ha⟩, by show va_P E.1 vwCl wc' t.heap; rw [ht]; exact w.1⟩, w.2.2.F ht⟩) w.fr hdg X.2.2.2.2.2.2.2.2
theorem r_ce {K : Int32 → va_W → Prop} {av : Array Value} (w : Wd E A s ws H locs) (hr : va_Run p l e R s m args below meth c H locs cells slots 0 0 (F0 m pc ls st0) rest (QE E wc K av) (hB wc)) (is : List Nat) (hC : is.map (fun i => ws[i]?) = wc.map some) (hn : va_nd is = true)
    (kk : ∀ (x : Int32) (w' : va_W), K x w' → ∀ (H1 : Heap) (locs1 : List Loc), Wd E A s (wput ws is w') H1 locs1 → W p l e R s m args below meth c H1 locs1 cells slots Q (F0 m (pc + 3) ls (.int x :: rest))) : W p l e R s m args below meth c H locs cells slots Q (F0 m pc ls st0) := by
  have hf := (w.sub is hC hn).2.2
  exact va_calli hr w.2.2 (fun q _ h => hf q h) hf (fun x u t H1 locs1 ht hvm hx hB hz hk hS => kk x u hx.1 H1 locs1 (w.call is hC hx.2 hk (by rw [← ht]; exact hB) hS))
end
/-! the script's array beside a method's world -/
def KX (l : Launch) (y : MethodName) (bytes : ByteArray) (maxL : Nat) (ret : Option FieldType) (fr lo : Nat) (E : Ev) (av : List Value) (b L : Nat) (xs : Nat → Int32) (Qc : Array Value → State → Outcome → State → Prop) : Prop :=
  Met l y (.code y bytes maxL ret :: T0) { frames := fr, cells := 0, slots := 0, locals := lo } (va_Pc av (fun U => Pre E [] U ∧ va_X b L xs U U.heap)) Qc 0 0 (hB [])
theorem PreX.blind (av : List Value) (E : Ev) (b L : Nat) (xs : Nat → Int32) : FrameBlind (va_Pc av (fun U => Pre E [] U ∧ va_X b L xs U U.heap)) := fun a U g mk h => by
  have h2 := Pre.blind av E [] a U g mk ⟨h.1, h.2.1⟩
  exact ⟨h2.1, h2.2, va_X.moved (u := U) (U := U.calling g mk a) (Vm.Alike.refl U.vm) h.2.2⟩
theorem KX.mk {l : Launch} {y : MethodName} {bytes : ByteArray} {maxL : Nat} {ret : Option FieldType} {fr lo : Nat} {E : Ev} {av : List Value} {b L : Nat} {xs : Nat → Int32} {Qc : Array Value → State → Outcome → State → Prop} (own : String) (hown : y.cls = own) (hy : plainFor y = true) (hlen : (lg_sl av).length ≤ maxL)
    (body : ∀ (p : Program) (e : Env) (s : State) (m : MethodId) (below : List Frame) (meth : Method) (c : Code) (ls : Array Slot), Cx p m meth c bytes maxL s av.toArray own E (hB []) → meth.sig.returnType = ret → va_X b L xs s s.heap → Wd E (hB []) s [] s.heap [] → lv_has ls maxL (lv_args 0 av) →
      W p l e { frames := fr, cells := 0, slots := 0, locals := lo } s m av.toArray below meth c s.heap [] 0 0 (MQ below Qc av.toArray s 0 0 (hB [])) (F0 m 0 ls [])) : KX l y bytes maxL ret fr lo E av b L xs Qc := by
  refine metW (cc := bytes) (maxL := maxL) (ret := ret) hy rfl ?_
  intro p e s m args below meth c s₁ B hml hv
  obtain ⟨rfl, ⟨hP, hK, hD0, hT, hN⟩, hX⟩ := hv
  have hts := atoms_spec (ws := .code y bytes maxL ret :: T0) B.pre
  have hf := findClass_of_methodNamed B.named
  rw [hown] at hf
  rw [lg_entry_eq]
  exact body p e s m below meth c _ ⟨B.exec, B.bytes, hml, hf, fun w hw => hts w (List.mem_cons_of_mem _ hw), hK, hT, hN, B.notSynchronized⟩ B.returns hX ⟨hP, ⟨hD0.1, fun k q hk => ⟨k, q.2, hk⟩⟩, va_S.rf⟩ (lv_entry av hlen)
theorem r_runX {p : Program} {l : Launch} {e : Env} {R : Room} {s : State} {m : MethodId} {args : Array Value} {below : List Frame} {meth : Method} {c : Code} {H : Heap} {locs : List Loc} {cells slots : Nat} {cc : ByteArray} {nL : Nat} {own : String} {E : Ev} {A : Nat → Prop} {ws : va_W} {pc : Nat} {ls : Array Slot} {rest st0 : List Value} {y : MethodName} {bytes : ByteArray} {maxL : Nat} {ret : Option FieldType} {fr lo : Nat} {As : List Value} {index : Nat} {b L : Nat} {xs : Nat → Int32} {Qc : Array Value → State → Outcome → State → Prop}
    (X : Cx p m meth c cc nL s args own E A) (hX : va_X b L xs s s.heap) (hbA : ¬ A b) (w : Wd E A s ws H locs) (hM : KX l y bytes maxL ret fr lo E As b L xs Qc) (ck : CkS own index y bytes maxL ret As.length) (hR : fr + 1 ≤ R.frames ∧ 8 + (maxL + 11) + lo ≤ R.locals) (hsz : ls.size = nL) (hst : (rest.map fun v => v.category).sum ≤ 8) (hstack : st0 = As.reverse ++ rest) (hdg : decode cc pc = .ok (.invokestatic index, 3)) (hcs : cells ≤ R.cells ∧ slots ≤ R.slots) :
    va_Run p l e R s m args below meth c H locs cells slots 0 0 (F0 m pc ls st0) rest (Qc As.toArray) (hB []) := by
  have hbl : b < s.heap.size := by
    obtain ⟨scr, h, -⟩ := hX
    exact (Array.getElem?_eq_some_iff.mp h).1
  exact va_runS ⟨X.1, X.2.1, X.2.2.1, X.2.2.2.1, X.2.2.2.2.1⟩ hM (va_cwS As.length X.2.2.2.2.1 ck.good rfl rfl rfl ck.2.2.2.2 hR) ⟨PreX.blind _ _ _ _ _, fun U hU hW => ⟨rfl, w.pre X [] rfl rfl U hU hW, by rw [hU]; exact va_X.moved hW.alike (va_X.kept hX (w.2.2.2.1 b hbl hbA))⟩⟩ rfl rfl hsz hstack (lv_room hst) hdg hcs
/-! both objects' cells -/
abbrev isA : List Nat := rg 0 72
abbrev isB : List Nat := rg 72 72
abbrev isAB : List Nat := rg 0 72 ++ rg 72 72
theorem nd_A : va_nd isA = true := by decide +kernel
theorem nd_B : va_nd isB = true := by decide +kernel
theorem nd_AB : va_nd isAB = true := by decide +kernel
theorem nar_c (x : Int32) : vp_nar .char ((x.toUInt32 % 65536).toInt32) = (x.toUInt32 % 65536).toInt32 := by
  have h : ∀ u : UInt32, u < 65536 → (u.toInt32.toUInt32 % 65536).toInt32 = u.toInt32 := by
    intro u hu
    rw [UInt32.lt_iff_toNat_lt] at hu
    have e : u.toInt32.toUInt32 = u := by simp
    rw [e]
    congr 1
    apply UInt32.toNat_inj.mp
    rw [UInt32.toNat_mod]
    exact Nat.mod_eq_of_lt hu
  refine h _ ?_
  rw [UInt32.lt_iff_toNat_lt, UInt32.toNat_mod]
  exact Nat.mod_lt _ (by decide)
theorem hcR_1 {E : Ev} {a0 : Ad} {s0 : So} : (isA : List Nat).map (fun i => (wOb E a0 s0)[i]?) = (wOb E a0 s0).map some := by rw [show wOb E a0 s0 = ([] : va_W) ++ (wOb E a0 s0 ++ (([] : va_W))) by simp only [List.append_assoc, List.nil_append, List.append_nil]]; exact get1 (s := 0) (n := 72) rfl rfl
theorem haR_1 {E : Ev} {a0 : Ad} {s0 : So} {τ0_0 : So} : (wOb E a0 τ0_0).map Prod.fst = (wOb E a0 s0).map Prod.fst := fst_Ob
theorem hwR_1 {E : Ev} {a0 : Ad} {s0 : So} {τ0_0 : So} : wput (wOb E a0 s0) isA (wOb E a0 τ0_0) = wOb E a0 τ0_0 := by
  show wput (wOb E a0 s0) (rg 0 72) (wOb E a0 τ0_0) = _
  rw [show wOb E a0 s0 = ([] : va_W) ++ (wOb E a0 s0 ++ (([] : va_W))) by simp only [List.append_assoc, List.nil_append, List.append_nil], put1 (s := 0) (n := 72) rfl rfl rfl]
  try simp only [List.append_assoc, List.nil_append, List.append_nil]
theorem hcR_2 {E : Ev} {a0 : Ad} {s0 : So} {a1 : Ad} {s1 : So} : (isA : List Nat).map (fun i => (wOb E a0 s0 ++ wOb E a1 s1)[i]?) = (wOb E a0 s0).map some := by rw [show wOb E a0 s0 ++ (wOb E a1 s1) = ([] : va_W) ++ (wOb E a0 s0 ++ (wOb E a1 s1)) by simp only [List.append_assoc, List.nil_append, List.append_nil]]; exact get1 (s := 0) (n := 72) rfl rfl
theorem haR_2 {E : Ev} {a0 : Ad} {s0 : So} {τ0_0 : So} : (wOb E a0 τ0_0).map Prod.fst = (wOb E a0 s0).map Prod.fst := fst_Ob
theorem hwR_2 {E : Ev} {a0 : Ad} {s0 : So} {a1 : Ad} {s1 : So} {τ0_0 : So} : wput (wOb E a0 s0 ++ wOb E a1 s1) isA (wOb E a0 τ0_0) = wOb E a0 τ0_0 ++ wOb E a1 s1 := by
  show wput (wOb E a0 s0 ++ (wOb E a1 s1)) (rg 0 72) (wOb E a0 τ0_0) = _
  rw [show wOb E a0 s0 ++ (wOb E a1 s1) = ([] : va_W) ++ (wOb E a0 s0 ++ (wOb E a1 s1)) by simp only [List.append_assoc, List.nil_append, List.append_nil], put1 (s := 0) (n := 72) rfl rfl rfl]
  try simp only [List.append_assoc, List.nil_append, List.append_nil]
theorem hcR_3 {E : Ev} {a0 : Ad} {s0 : So} {a1 : Ad} {s1 : So} : (isB : List Nat).map (fun i => (wOb E a0 s0 ++ wOb E a1 s1)[i]?) = (wOb E a1 s1).map some := by rw [show wOb E a0 s0 ++ (wOb E a1 s1) = (wOb E a0 s0) ++ (wOb E a1 s1 ++ (([] : va_W))) by simp only [List.append_assoc, List.nil_append, List.append_nil]]; exact get1 (s := 72) (n := 72) rfl rfl
theorem haR_3 {E : Ev} {a1 : Ad} {s1 : So} {τ0_0 : So} : (wOb E a1 τ0_0).map Prod.fst = (wOb E a1 s1).map Prod.fst := fst_Ob
theorem hwR_3 {E : Ev} {a0 : Ad} {s0 : So} {a1 : Ad} {s1 : So} {τ0_0 : So} : wput (wOb E a0 s0 ++ wOb E a1 s1) isB (wOb E a1 τ0_0) = wOb E a0 s0 ++ wOb E a1 τ0_0 := by
  show wput (wOb E a0 s0 ++ (wOb E a1 s1)) (rg 72 72) (wOb E a1 τ0_0) = _
  rw [show wOb E a0 s0 ++ (wOb E a1 s1) = (wOb E a0 s0) ++ (wOb E a1 s1 ++ (([] : va_W))) by simp only [List.append_assoc, List.nil_append, List.append_nil], put1 (s := 72) (n := 72) rfl rfl rfl]
  try simp only [List.append_assoc, List.nil_append, List.append_nil]
theorem hcR_4 {E : Ev} {a0 : Ad} {s0 : So} {a1 : Ad} {s1 : So} : (isAB : List Nat).map (fun i => (wOb E a0 s0 ++ wOb E a1 s1)[i]?) = (wOb E a0 s0 ++ wOb E a1 s1).map some := get_app (is1 := rg 0 72) (is2 := rg 72 72) (by rw [show wOb E a0 s0 ++ (wOb E a1 s1) = ([] : va_W) ++ (wOb E a0 s0 ++ (wOb E a1 s1)) by simp only [List.append_assoc, List.nil_append, List.append_nil]]; exact get1 (s := 0) (n := 72) rfl rfl) ((by rw [show wOb E a0 s0 ++ (wOb E a1 s1) = (wOb E a0 s0) ++ (wOb E a1 s1 ++ (([] : va_W))) by simp only [List.append_assoc, List.nil_append, List.append_nil]]; exact get1 (s := 72) (n := 72) rfl rfl))
theorem haR_4 {E : Ev} {a0 : Ad} {s0 : So} {a1 : Ad} {s1 : So} {τ0_0 : So} {τ1_0 : So} : (wOb E a0 τ0_0 ++ wOb E a1 τ1_0).map Prod.fst = (wOb E a0 s0 ++ wOb E a1 s1).map Prod.fst := fst_app fst_Ob (fst_Ob)
theorem hwR_4 {E : Ev} {a0 : Ad} {s0 : So} {a1 : Ad} {s1 : So} {τ0_0 : So} {τ1_0 : So} : wput (wOb E a0 s0 ++ wOb E a1 s1) isAB (wOb E a0 τ0_0 ++ wOb E a1 τ1_0) = wOb E a0 τ0_0 ++ wOb E a1 τ1_0 := by
  show wput (wOb E a0 s0 ++ (wOb E a1 s1)) (rg 0 72 ++ (rg 72 72)) (wOb E a0 τ0_0 ++ wOb E a1 τ1_0) = _
  rw [wput_app rfl]
  rw [show wOb E a0 s0 ++ (wOb E a1 s1) = ([] : va_W) ++ (wOb E a0 s0 ++ (wOb E a1 s1)) by simp only [List.append_assoc, List.nil_append, List.append_nil], put1 (s := 0) (n := 72) rfl rfl rfl]
  rw [show ([] : va_W) ++ (wOb E a0 τ0_0 ++ (wOb E a1 s1)) = (wOb E a0 τ0_0) ++ (wOb E a1 s1 ++ (([] : va_W))) by simp only [List.append_assoc, List.nil_append, List.append_nil], put1 (s := 72) (n := 72) rfl rfl rfl]
  try simp only [List.append_assoc, List.nil_append, List.append_nil]
def fL_up (v : Int32) (n : Int32) : Int32 := ((v &&& 2147483647) - (v &&& 2147483647) / n * n)
theorem dL_up_0 : decode cL_up 0 = .ok (.iload_n 0, 1) := by decide +kernel
theorem dL_up_1 : decode cL_up 1 = .ok (.ldc 8, 2) := by decide +kernel
theorem dL_up_3 : decode cL_up 3 = .ok (.iand, 1) := by decide +kernel
theorem dL_up_4 : decode cL_up 4 = .ok (.iload_n 1, 1) := by decide +kernel
theorem dL_up_5 : decode cL_up 5 = .ok (.irem, 1) := by decide +kernel
theorem dL_up_6 : decode cL_up 6 = .ok (.ireturn, 1) := by decide +kernel
set_option maxHeartbeats 4000000 in
set_option maxRecDepth 100000 in
theorem kL_up (l : Launch) (E : Ev) (v : Int32) (n : Int32) (hn : ¬ n = 0) : KQ l yL_up cL_up 2 (some .int) 0 0 E [.int v, .int n] [] (QI E [] (fL_up v n) []) := by
  refine KQ.mk RL rfl (by decide +kernel) (Nat.le_of_ble_eq_true rfl) ?_
  intro p e s m below meth c ls X hr w hl
  have hx := X.1
  have hb := X.2.1
  have hl : lv_has ls 2 [(0, .int v), (1, .int n)] := hl
  refine lv_iload_n hx hb dL_up_0 rfl (lv_at hl 0 rfl) ?_
  refine r_ldci X wk_L_8 dL_up_1 ?_
  refine lv_iand hx hb dL_up_3 ?_
  refine lv_iload_n hx hb dL_up_4 rfl (lv_at hl 1 rfl) ?_
  refine lv_irem hx hb dL_up_5 hn ?_
  have hq : fL_up v n = ((v &&& 2147483647) - (v &&& 2147483647) / n * n) := rfl
  rw [hq]
  exact r_iret X w hr rfl dL_up_6
def fL_there (x : Int32) : Int32 := if x < 0 then ((x)) else (if x ≤ 60 then ((60 - x)) else ((x)))
theorem dL_there_0 : decode cL_there 0 = .ok (.iload_n 0, 1) := by decide +kernel
theorem dL_there_1 : decode cL_there 1 = .ok (.ifCond .lt 9, 3) := by decide +kernel
theorem dL_there_4 : decode cL_there 4 = .ok (.iload_n 0, 1) := by decide +kernel
theorem dL_there_5 : decode cL_there 5 = .ok (.bipush 60, 2) := by decide +kernel
theorem dL_there_7 : decode cL_there 7 = .ok (.if_icmp .le 7, 3) := by decide +kernel
theorem dL_there_10 : decode cL_there 10 = .ok (.iload_n 0, 1) := by decide +kernel
theorem dL_there_11 : decode cL_there 11 = .ok (.goto 7, 3) := by decide +kernel
theorem dL_there_14 : decode cL_there 14 = .ok (.bipush 60, 2) := by decide +kernel
theorem dL_there_16 : decode cL_there 16 = .ok (.iload_n 0, 1) := by decide +kernel
theorem dL_there_17 : decode cL_there 17 = .ok (.isub, 1) := by decide +kernel
theorem dL_there_18 : decode cL_there 18 = .ok (.ireturn, 1) := by decide +kernel
set_option maxHeartbeats 4000000 in
set_option maxRecDepth 100000 in
theorem kL_there (l : Launch) (E : Ev) (x : Int32) : KQ l yL_there cL_there 1 (some .int) 0 0 E [.int x] [] (QI E [] (fL_there x) []) := by
  refine KQ.mk RL rfl (by decide +kernel) (Nat.le_of_ble_eq_true rfl) ?_
  intro p e s m below meth c ls X hr w hl
  have hx := X.1
  have hb := X.2.1
  have hl : lv_has ls 1 [(0, .int x)] := hl
  refine lv_iload_n hx hb dL_there_0 rfl (lv_at hl 0 rfl) ?_
  refine lv_if_lt (tgt := 10) hx hb dL_there_1 (by decide) (fun c1_1 => ?_) (fun c1_1 => ?_)
  · refine lv_iload_n hx hb dL_there_10 rfl (lv_at hl 0 rfl) ?_
    refine lv_goto (tgt := 18) hx hb dL_there_11 (by decide) ?_
    have hq : fL_there x = (x) := by simp only [fL_there, if_pos c1_1]
    rw [hq]
    exact r_iret X w hr rfl dL_there_18
  · refine lv_iload_n hx hb dL_there_4 rfl (lv_at hl 0 rfl) ?_
    refine lv_bipush (v := 60) hx hb dL_there_5 (by decide) ?_
    refine lv_icmp_le (tgt := 14) hx hb dL_there_7 (by decide) (fun c7_2 => ?_) (fun c7_2 => ?_)
    · refine lv_bipush (v := 60) hx hb dL_there_14 (by decide) ?_
      refine lv_iload_n hx hb dL_there_16 rfl (lv_at hl 0 rfl) ?_
      refine lv_isub hx hb dL_there_17 ?_
      have hq : fL_there x = (60 - x) := by simp only [fL_there, if_neg c1_1, if_pos c7_2]
      rw [hq]
      exact r_iret X w hr rfl dL_there_18
    · refine lv_iload_n hx hb dL_there_10 rfl (lv_at hl 0 rfl) ?_
      refine lv_goto (tgt := 18) hx hb dL_there_11 (by decide) ?_
      have hq : fL_there x = (x) := by simp only [fL_there, if_neg c1_1, if_neg c7_2]
      rw [hq]
      exact r_iret X w hr rfl dL_there_18
def fL_way (d : Int32) : Int32 := if 3 ≤ d then ((d - 3)) else ((d + 3))
theorem dL_way_0 : decode cL_way 0 = .ok (.iload_n 0, 1) := by decide +kernel
theorem dL_way_1 : decode cL_way 1 = .ok (.iconst 3, 1) := by decide +kernel
theorem dL_way_2 : decode cL_way 2 = .ok (.if_icmp .ge 9, 3) := by decide +kernel
theorem dL_way_5 : decode cL_way 5 = .ok (.iload_n 0, 1) := by decide +kernel
theorem dL_way_6 : decode cL_way 6 = .ok (.iconst 3, 1) := by decide +kernel
theorem dL_way_7 : decode cL_way 7 = .ok (.iadd, 1) := by decide +kernel
theorem dL_way_8 : decode cL_way 8 = .ok (.goto 6, 3) := by decide +kernel
theorem dL_way_11 : decode cL_way 11 = .ok (.iload_n 0, 1) := by decide +kernel
theorem dL_way_12 : decode cL_way 12 = .ok (.iconst 3, 1) := by decide +kernel
theorem dL_way_13 : decode cL_way 13 = .ok (.isub, 1) := by decide +kernel
theorem dL_way_14 : decode cL_way 14 = .ok (.ireturn, 1) := by decide +kernel
set_option maxHeartbeats 4000000 in
set_option maxRecDepth 100000 in
theorem kL_way (l : Launch) (E : Ev) (d : Int32) : KQ l yL_way cL_way 1 (some .int) 0 0 E [.int d] [] (QI E [] (fL_way d) []) := by
  refine KQ.mk RL rfl (by decide +kernel) (Nat.le_of_ble_eq_true rfl) ?_
  intro p e s m below meth c ls X hr w hl
  have hx := X.1
  have hb := X.2.1
  have hl : lv_has ls 1 [(0, .int d)] := hl
  refine lv_iload_n hx hb dL_way_0 rfl (lv_at hl 0 rfl) ?_
  refine lv_iconst (v := 3) hx hb dL_way_1 (by decide) ?_
  refine lv_icmp_ge (tgt := 11) hx hb dL_way_2 (by decide) (fun c2_1 => ?_) (fun c2_1 => ?_)
  · refine lv_iload_n hx hb dL_way_11 rfl (lv_at hl 0 rfl) ?_
    refine lv_iconst (v := 3) hx hb dL_way_12 (by decide) ?_
    refine lv_isub hx hb dL_way_13 ?_
    have hq : fL_way d = (d - 3) := by simp only [fL_way, if_pos c2_1]
    rw [hq]
    exact r_iret X w hr rfl dL_way_14
  · refine lv_iload_n hx hb dL_way_5 rfl (lv_at hl 0 rfl) ?_
    refine lv_iconst (v := 3) hx hb dL_way_6 (by decide) ?_
    refine lv_iadd hx hb dL_way_7 ?_
    refine lv_goto (tgt := 14) hx hb dL_way_8 (by decide) ?_
    have hq : fL_way d = (d + 3) := by simp only [fL_way, if_neg c2_1]
    rw [hq]
    exact r_iret X w hr rfl dL_way_14
def fL_pots (op : Int32) : Int32 := ((op >>> (3 &&& 31)) ||| ((op &&& 7) <<< (3 &&& 31)))
theorem dL_pots_0 : decode cL_pots 0 = .ok (.iload_n 0, 1) := by decide +kernel
theorem dL_pots_1 : decode cL_pots 1 = .ok (.iconst 3, 1) := by decide +kernel
theorem dL_pots_2 : decode cL_pots 2 = .ok (.ishr, 1) := by decide +kernel
theorem dL_pots_3 : decode cL_pots 3 = .ok (.iload_n 0, 1) := by decide +kernel
theorem dL_pots_4 : decode cL_pots 4 = .ok (.bipush 7, 2) := by decide +kernel
theorem dL_pots_6 : decode cL_pots 6 = .ok (.iand, 1) := by decide +kernel
theorem dL_pots_7 : decode cL_pots 7 = .ok (.iconst 3, 1) := by decide +kernel
theorem dL_pots_8 : decode cL_pots 8 = .ok (.ishl, 1) := by decide +kernel
theorem dL_pots_9 : decode cL_pots 9 = .ok (.ior, 1) := by decide +kernel
theorem dL_pots_10 : decode cL_pots 10 = .ok (.ireturn, 1) := by decide +kernel
set_option maxHeartbeats 4000000 in
set_option maxRecDepth 100000 in
theorem kL_pots (l : Launch) (E : Ev) (op : Int32) : KQ l yL_pots cL_pots 1 (some .int) 0 0 E [.int op] [] (QI E [] (fL_pots op) []) := by
  refine KQ.mk RL rfl (by decide +kernel) (Nat.le_of_ble_eq_true rfl) ?_
  intro p e s m below meth c ls X hr w hl
  have hx := X.1
  have hb := X.2.1
  have hl : lv_has ls 1 [(0, .int op)] := hl
  refine lv_iload_n hx hb dL_pots_0 rfl (lv_at hl 0 rfl) ?_
  refine lv_iconst (v := 3) hx hb dL_pots_1 (by decide) ?_
  refine lv_ishr hx hb dL_pots_2 ?_
  refine lv_iload_n hx hb dL_pots_3 rfl (lv_at hl 0 rfl) ?_
  refine lv_bipush (v := 7) hx hb dL_pots_4 (by decide) ?_
  refine lv_iand hx hb dL_pots_6 ?_
  refine lv_iconst (v := 3) hx hb dL_pots_7 (by decide) ?_
  refine lv_ishl hx hb dL_pots_8 ?_
  refine lv_ior hx hb dL_pots_9 ?_
  have hq : fL_pots op = ((op >>> (3 &&& 31)) ||| ((op &&& 7) <<< (3 &&& 31))) := rfl
  rw [hq]
  exact r_iret X w hr rfl dL_pots_10
def fL_number (S : So) (v : Int32) : Int32 × So := if v < 10 then (if (an_type S (((48 + (v - v / 10 * 10)).toUInt32 % 65536).toInt32)) ≤ 0 then ((0, ob_type S (((48 + (v - v / 10 * 10)).toUInt32 % 65536).toInt32))) else ((1, ob_type S (((48 + (v - v / 10 * 10)).toUInt32 % 65536).toInt32)))) else (if (an_type S (((48 + (v / 10)).toUInt32 % 65536).toInt32)) ≤ 0 then ((0, ob_type S (((48 + (v / 10)).toUInt32 % 65536).toInt32))) else (if (an_type (ob_type S (((48 + (v / 10)).toUInt32 % 65536).toInt32)) (((48 + (v - v / 10 * 10)).toUInt32 % 65536).toInt32)) ≤ 0 then ((0, ob_type (ob_type S (((48 + (v / 10)).toUInt32 % 65536).toInt32)) (((48 + (v - v / 10 * 10)).toUInt32 % 65536).toInt32))) else ((1, ob_type (ob_type S (((48 + (v / 10)).toUInt32 % 65536).toInt32)) (((48 + (v - v / 10 * 10)).toUInt32 % 65536).toInt32)))))
theorem dL_number_0 : decode cL_number 0 = .ok (.iload_n 1, 1) := by decide +kernel
theorem dL_number_1 : decode cL_number 1 = .ok (.bipush 10, 2) := by decide +kernel
theorem dL_number_3 : decode cL_number 3 = .ok (.if_icmp .lt 18, 3) := by decide +kernel
theorem dL_number_6 : decode cL_number 6 = .ok (.aload_n 0, 1) := by decide +kernel
theorem dL_number_7 : decode cL_number 7 = .ok (.bipush 48, 2) := by decide +kernel
theorem dL_number_9 : decode cL_number 9 = .ok (.iload_n 1, 1) := by decide +kernel
theorem dL_number_10 : decode cL_number 10 = .ok (.bipush 10, 2) := by decide +kernel
theorem dL_number_12 : decode cL_number 12 = .ok (.idiv, 1) := by decide +kernel
theorem dL_number_13 : decode cL_number 13 = .ok (.iadd, 1) := by decide +kernel
theorem dL_number_14 : decode cL_number 14 = .ok (.i2c, 1) := by decide +kernel
theorem dL_number_15 : decode cL_number 15 = .ok (.invokevirtual 9, 3) := by decide +kernel
theorem dL_number_18 : decode cL_number 18 = .ok (.ifCond .le 22, 3) := by decide +kernel
theorem dL_number_21 : decode cL_number 21 = .ok (.aload_n 0, 1) := by decide +kernel
theorem dL_number_22 : decode cL_number 22 = .ok (.bipush 48, 2) := by decide +kernel
theorem dL_number_24 : decode cL_number 24 = .ok (.iload_n 1, 1) := by decide +kernel
theorem dL_number_25 : decode cL_number 25 = .ok (.bipush 10, 2) := by decide +kernel
theorem dL_number_27 : decode cL_number 27 = .ok (.irem, 1) := by decide +kernel
theorem dL_number_28 : decode cL_number 28 = .ok (.iadd, 1) := by decide +kernel
theorem dL_number_29 : decode cL_number 29 = .ok (.i2c, 1) := by decide +kernel
theorem dL_number_30 : decode cL_number 30 = .ok (.invokevirtual 9, 3) := by decide +kernel
theorem dL_number_33 : decode cL_number 33 = .ok (.ifCond .le 7, 3) := by decide +kernel
theorem dL_number_36 : decode cL_number 36 = .ok (.iconst 1, 1) := by decide +kernel
theorem dL_number_37 : decode cL_number 37 = .ok (.goto 4, 3) := by decide +kernel
theorem dL_number_40 : decode cL_number 40 = .ok (.iconst 0, 1) := by decide +kernel
theorem dL_number_41 : decode cL_number 41 = .ok (.ireturn, 1) := by decide +kernel
theorem ck_L_9 : CkV RL 9 RX6 yX6_type cX6_type 2 (some .int) 1 := ⟨wm_L_9, wim_yX6_type, wse_yX6_type, wi_X6, wc_yX6_type, by decide +kernel⟩
set_option maxHeartbeats 4000000 in
set_option maxRecDepth 100000 in
theorem kL_number (l : Launch) (E : Ev) (A : Ad) (S : So) (v : Int32) : KQ l yL_number cL_number 2 (some .boolean) 2 42 E [.ref (adH A), .int v] (wOb E A S) (QI E (wOb E A S) (fL_number S v).1 (wOb E A ((fL_number S v).2))) := by
  refine KQ.mk RL rfl (by decide +kernel) (Nat.le_of_ble_eq_true rfl) ?_
  intro p e s m below meth c ls X hr w hl
  have hx := X.1
  have hb := X.2.1
  have hl : lv_has ls 2 [(0, .ref (adH A)), (1, .int v)] := hl
  refine lv_iload_n hx hb dL_number_0 rfl (lv_at hl 1 rfl) ?_
  refine lv_bipush (v := 10) hx hb dL_number_1 (by decide) ?_
  refine lv_icmp_lt (tgt := 21) hx hb dL_number_3 (by decide) (fun c3_1 => ?_) (fun c3_1 => ?_)
  · refine lv_aload_n hx hb dL_number_21 rfl (lv_at hl 0 rfl) ?_
    refine lv_bipush (v := 48) hx hb dL_number_22 (by decide) ?_
    refine lv_iload_n hx hb dL_number_24 rfl (lv_at hl 1 rfl) ?_
    refine lv_bipush (v := 10) hx hb dL_number_25 (by decide) ?_
    refine lv_irem hx hb dL_number_27 (by decide) ?_
    refine lv_iadd hx hb dL_number_28 ?_
    refine lv_i2c hx hb dL_number_29 rfl ?_
    refine r_ci w (r_runV (As := [.int (((48 + (v - v / 10 * 10)).toUInt32 % 65536).toInt32)]) (rest := []) X w (q_type l E A S (((48 + (v - v / 10 * 10)).toUInt32 % 65536).toInt32) (nar_c _)) ck_L_9 ⟨Nat.le_of_ble_eq_true rfl, Nat.le_of_ble_eq_true rfl⟩ isA (hcR_1 (E := E)) nd_A (k0 := 0) CL6 rfl hl.1 (Nat.le_of_ble_eq_true rfl) rfl dL_number_30 ⟨Nat.le_of_ble_eq_true rfl, Nat.le_of_ble_eq_true rfl⟩) (wOb E A (ob_type S (((48 + (v - v / 10 * 10)).toUInt32 % 65536).toInt32))) isA (hcR_1 (E := E)) nd_A (haR_1 (E := E)) (hwR_1 (E := E)) (fun H locs w => ?_)
    refine lv_if_le (tgt := 40) hx hb dL_number_33 (by decide) (fun c33_2 => ?_) (fun c33_2 => ?_)
    · refine lv_iconst (v := 0) hx hb dL_number_40 (by decide) ?_
      have hq : fL_number S v = (0, ob_type S (((48 + (v - v / 10 * 10)).toUInt32 % 65536).toInt32)) := by simp only [fL_number, if_pos c3_1, if_pos c33_2]
      obtain ⟨h0_, h1_⟩ := tup2 hq
      rw [h0_, h1_]
      exact r_zret X w hr (Or.inl rfl) rfl dL_number_41
    · refine lv_iconst (v := 1) hx hb dL_number_36 (by decide) ?_
      refine lv_goto (tgt := 41) hx hb dL_number_37 (by decide) ?_
      have hq : fL_number S v = (1, ob_type S (((48 + (v - v / 10 * 10)).toUInt32 % 65536).toInt32)) := by simp only [fL_number, if_pos c3_1, if_neg c33_2]
      obtain ⟨h0_, h1_⟩ := tup2 hq
      rw [h0_, h1_]
      exact r_zret X w hr (Or.inr rfl) rfl dL_number_41
  · refine lv_aload_n hx hb dL_number_6 rfl (lv_at hl 0 rfl) ?_
    refine lv_bipush (v := 48) hx hb dL_number_7 (by decide) ?_
    refine lv_iload_n hx hb dL_number_9 rfl (lv_at hl 1 rfl) ?_
    refine lv_bipush (v := 10) hx hb dL_number_10 (by decide) ?_
    refine lv_idiv hx hb dL_number_12 (by decide) ?_
    refine lv_iadd hx hb dL_number_13 ?_
    refine lv_i2c hx hb dL_number_14 rfl ?_
    refine r_ci w (r_runV (As := [.int (((48 + (v / 10)).toUInt32 % 65536).toInt32)]) (rest := []) X w (q_type l E A S (((48 + (v / 10)).toUInt32 % 65536).toInt32) (nar_c _)) ck_L_9 ⟨Nat.le_of_ble_eq_true rfl, Nat.le_of_ble_eq_true rfl⟩ isA (hcR_1 (E := E)) nd_A (k0 := 0) CL6 rfl hl.1 (Nat.le_of_ble_eq_true rfl) rfl dL_number_15 ⟨Nat.le_of_ble_eq_true rfl, Nat.le_of_ble_eq_true rfl⟩) (wOb E A (ob_type S (((48 + (v / 10)).toUInt32 % 65536).toInt32))) isA (hcR_1 (E := E)) nd_A (haR_1 (E := E)) (hwR_1 (E := E)) (fun H locs w => ?_)
    refine lv_if_le (tgt := 40) hx hb dL_number_18 (by decide) (fun c18_3 => ?_) (fun c18_3 => ?_)
    · refine lv_iconst (v := 0) hx hb dL_number_40 (by decide) ?_
      have hq : fL_number S v = (0, ob_type S (((48 + (v / 10)).toUInt32 % 65536).toInt32)) := by simp only [fL_number, if_neg c3_1, if_pos c18_3]
      obtain ⟨h0_, h1_⟩ := tup2 hq
      rw [h0_, h1_]
      exact r_zret X w hr (Or.inl rfl) rfl dL_number_41
    · refine lv_aload_n hx hb dL_number_21 rfl (lv_at hl 0 rfl) ?_
      refine lv_bipush (v := 48) hx hb dL_number_22 (by decide) ?_
      refine lv_iload_n hx hb dL_number_24 rfl (lv_at hl 1 rfl) ?_
      refine lv_bipush (v := 10) hx hb dL_number_25 (by decide) ?_
      refine lv_irem hx hb dL_number_27 (by decide) ?_
      refine lv_iadd hx hb dL_number_28 ?_
      refine lv_i2c hx hb dL_number_29 rfl ?_
      refine r_ci w (r_runV (As := [.int (((48 + (v - v / 10 * 10)).toUInt32 % 65536).toInt32)]) (rest := []) X w (q_type l E A (ob_type S (((48 + (v / 10)).toUInt32 % 65536).toInt32)) (((48 + (v - v / 10 * 10)).toUInt32 % 65536).toInt32) (nar_c _)) ck_L_9 ⟨Nat.le_of_ble_eq_true rfl, Nat.le_of_ble_eq_true rfl⟩ isA (hcR_1 (E := E)) nd_A (k0 := 0) CL6 rfl hl.1 (Nat.le_of_ble_eq_true rfl) rfl dL_number_30 ⟨Nat.le_of_ble_eq_true rfl, Nat.le_of_ble_eq_true rfl⟩) (wOb E A (ob_type (ob_type S (((48 + (v / 10)).toUInt32 % 65536).toInt32)) (((48 + (v - v / 10 * 10)).toUInt32 % 65536).toInt32))) isA (hcR_1 (E := E)) nd_A (haR_1 (E := E)) (hwR_1 (E := E)) (fun H locs w => ?_)
      refine lv_if_le (tgt := 40) hx hb dL_number_33 (by decide) (fun c33_4 => ?_) (fun c33_4 => ?_)
      · refine lv_iconst (v := 0) hx hb dL_number_40 (by decide) ?_
        have hq : fL_number S v = (0, ob_type (ob_type S (((48 + (v / 10)).toUInt32 % 65536).toInt32)) (((48 + (v - v / 10 * 10)).toUInt32 % 65536).toInt32)) := by simp only [fL_number, if_neg c3_1, if_neg c18_3, if_pos c33_4]
        obtain ⟨h0_, h1_⟩ := tup2 hq
        rw [h0_, h1_]
        exact r_zret X w hr (Or.inl rfl) rfl dL_number_41
      · refine lv_iconst (v := 1) hx hb dL_number_36 (by decide) ?_
        refine lv_goto (tgt := 41) hx hb dL_number_37 (by decide) ?_
        have hq : fL_number S v = (1, ob_type (ob_type S (((48 + (v / 10)).toUInt32 % 65536).toInt32)) (((48 + (v - v / 10 * 10)).toUInt32 % 65536).toInt32)) := by simp only [fL_number, if_neg c3_1, if_neg c18_3, if_neg c33_4]
        obtain ⟨h0_, h1_⟩ := tup2 hq
        rw [h0_, h1_]
        exact r_zret X w hr (Or.inr rfl) rfl dL_number_41
theorem zL_number (S : So) (v : Int32) : (fL_number S v).1 = 0 ∨ (fL_number S v).1 = 1 := by
  unfold fL_number
  repeat' split
  all_goals first | exact Or.inl rfl | exact Or.inr rfl | (simp; done) | exact Or.inl rfl
