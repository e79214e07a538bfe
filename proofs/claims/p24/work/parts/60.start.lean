/-! the law's start: the environment, the first state (printed by wip/p24/p60.py) -/
def lwA (s : State) : Nat → Prop := fun q => s.heap.size ≤ q
theorem lwA_out (s : State) : ∀ a : Nat, a < s.heap.size → ¬ lwA s a := fun a h q => absurd h (Nat.not_lt.mpr q)
theorem arr_of {args : Array Value} {s : State} {ty : FieldType} (h : (Cond.arrayClass ty).before args s = true) : ∃ cA : ClassId, ArrOfT s cA ty ∧ s.vm.findClass ("[" ++ ty.toString) = some cA := by
  obtain ⟨cA, kA, comp, hf, hk, hkind⟩ := Cond.arrayClass_spec h
  exact ⟨cA, fun n z => ⟨fun k h => (by cases h), kA, hk, comp, hkind⟩, hf⟩
theorem law_kn {args : Array Value} {s : State} (hts : ∀ w ∈ T0, w.before args s = true) : ∃ D : va_G, ∀ (k : Nat) (q : vw_C), vwCl[k]? = some q → u_Kn s q.1 q.2.1 q.2.2 (D.1 k) (D.2 k) := by
  obtain ⟨c0, i0, h0⟩ := u_known (C := RX0) (T := TX0) (N := 7) (n := 7) hts T0X0 (hts _ wn_X0)
  obtain ⟨c1, i1, h1⟩ := u_known (C := RX2) (T := TX2) (N := 2) (n := 2) hts T0X2 (hts _ wn_X2)
  obtain ⟨c2, i2, h2⟩ := u_known (C := RX3) (T := TX3) (N := 9) (n := 9) hts T0X3 (hts _ wn_X3)
  obtain ⟨c3, i3, h3⟩ := u_known (C := RX4) (T := TX4) (N := 14) (n := 14) hts T0X4 (hts _ wn_X4)
  obtain ⟨c4, i4, h4⟩ := u_known (C := RX5) (T := TX5) (N := 3) (n := 3) hts T0X5 (hts _ wn_X5)
  obtain ⟨c5, i5, h5⟩ := u_known (C := RX6) (T := TX6) (N := 7) (n := 7) hts T0X6 (hts _ wn_X6)
  refine ⟨(fun k => [c0, c1, c2, c3, c4, c5].getD k c0, fun k => [i0, i1, i2, i3, i4, i5].getD k i0), ?_⟩
  intro k q hq
  match k, hq with
  | 0, hq => cases hq; exact h0
  | 1, hq => cases hq; exact h1
  | 2, hq => cases hq; exact h2
  | 3, hq => cases hq; exact h3
  | 4, hq => cases hq; exact h4
  | 5, hq => cases hq; exact h5
  | k + 6, hq => simp at hq
theorem law_s0 {args : Array Value} {s : State} (hts : ∀ w ∈ lw_tbl, w.before args s = true) (hgv : (Jvm.Cond.and given_1 narrow_1).before args s = true) : ∃ t : Nat, va_Z "HexBilliards" "LOWEST_SETTING" "[I" (.ref t) (lwA s) s s.heap ∧ va_T .int t 3 (fun j => .int (sT 0 j)) (lwA s) s s.heap := by
  have hf := flat_of_before _ hgv
  have harr : (Cond.arrayOf (Term.static "HexBilliards" "LOWEST_SETTING" "[I") .int).before args s = true := hf _ (by decide +kernel)
  have hlen : (Term.length (Term.static "HexBilliards" "LOWEST_SETTING" "[I")).eval args s none [] s = some (.int (Int32.ofNat 3)) := va_eqt (hf (Cond.eq (.length (Term.static "HexBilliards" "LOWEST_SETTING" "[I")) (.int 3)) (by decide +kernel))
  have e0 : (Term.elem (Term.static "HexBilliards" "LOWEST_SETTING" "[I") (.int (Int32.ofNat 0))).eval args s none [] s = some (.int (sT 0 0)) := va_eqt (hf (Cond.eq (.elem (Term.static "HexBilliards" "LOWEST_SETTING" "[I") (.int 0)) (.int 50)) (by decide +kernel))
  have e1 : (Term.elem (Term.static "HexBilliards" "LOWEST_SETTING" "[I") (.int (Int32.ofNat 1))).eval args s none [] s = some (.int (sT 0 1)) := va_eqt (hf (Cond.eq (.elem (Term.static "HexBilliards" "LOWEST_SETTING" "[I") (.int 1)) (.int 50)) (by decide +kernel))
  have e2 : (Term.elem (Term.static "HexBilliards" "LOWEST_SETTING" "[I") (.int (Int32.ofNat 2))).eval args s none [] s = some (.int (sT 0 2)) := va_eqt (hf (Cond.eq (.elem (Term.static "HexBilliards" "LOWEST_SETTING" "[I") (.int 2)) (.int 50)) (by decide +kernel))
  obtain ⟨t, ht, hT⟩ := va_Tof (A := lwA s) (N := 3) (f := fun j => .int (sT 0 j)) (by decide) harr hlen (fun j hj => by
    match j, hj with
    | 0, _ => exact e0
    | 1, _ => exact e1
    | 2, _ => exact e2) (lwA_out s)
  exact ⟨t, va_Zof (hts _ (lt_k2 (List.mem_of_getElem? (i := 170) rfl))) (hts _ (lt_k1 (List.mem_of_getElem? (i := 1) rfl))) ht (lwA_out s), hT⟩
theorem law_s1 {args : Array Value} {s : State} (hts : ∀ w ∈ lw_tbl, w.before args s = true) (hgv : (Jvm.Cond.and given_1 narrow_1).before args s = true) : ∃ t : Nat, va_Z "HexBilliards" "HIGHEST_SETTING" "[I" (.ref t) (lwA s) s s.heap ∧ va_T .int t 3 (fun j => .int (sT 1 j)) (lwA s) s s.heap := by
  have hf := flat_of_before _ hgv
  have harr : (Cond.arrayOf (Term.static "HexBilliards" "HIGHEST_SETTING" "[I") .int).before args s = true := hf _ (by decide +kernel)
  have hlen : (Term.length (Term.static "HexBilliards" "HIGHEST_SETTING" "[I")).eval args s none [] s = some (.int (Int32.ofNat 3)) := va_eqt (hf (Cond.eq (.length (Term.static "HexBilliards" "HIGHEST_SETTING" "[I")) (.int 3)) (by decide +kernel))
  have e0 : (Term.elem (Term.static "HexBilliards" "HIGHEST_SETTING" "[I") (.int (Int32.ofNat 0))).eval args s none [] s = some (.int (sT 1 0)) := va_eqt (hf (Cond.eq (.elem (Term.static "HexBilliards" "HIGHEST_SETTING" "[I") (.int 0)) (.int 99)) (by decide +kernel))
  have e1 : (Term.elem (Term.static "HexBilliards" "HIGHEST_SETTING" "[I") (.int (Int32.ofNat 1))).eval args s none [] s = some (.int (sT 1 1)) := va_eqt (hf (Cond.eq (.elem (Term.static "HexBilliards" "HIGHEST_SETTING" "[I") (.int 1)) (.int 100)) (by decide +kernel))
  have e2 : (Term.elem (Term.static "HexBilliards" "HIGHEST_SETTING" "[I") (.int (Int32.ofNat 2))).eval args s none [] s = some (.int (sT 1 2)) := va_eqt (hf (Cond.eq (.elem (Term.static "HexBilliards" "HIGHEST_SETTING" "[I") (.int 2)) (.int 99)) (by decide +kernel))
  obtain ⟨t, ht, hT⟩ := va_Tof (A := lwA s) (N := 3) (f := fun j => .int (sT 1 j)) (by decide) harr hlen (fun j hj => by
    match j, hj with
    | 0, _ => exact e0
    | 1, _ => exact e1
    | 2, _ => exact e2) (lwA_out s)
  exact ⟨t, va_Zof (hts _ (lt_k2 (List.mem_of_getElem? (i := 172) rfl))) (hts _ (lt_k1 (List.mem_of_getElem? (i := 1) rfl))) ht (lwA_out s), hT⟩
theorem law_s2 {args : Array Value} {s : State} (hts : ∀ w ∈ lw_tbl, w.before args s = true) (hgv : (Jvm.Cond.and given_1 narrow_1).before args s = true) : ∃ t : Nat, va_Z "HexBilliards" "FIRST_SETTING" "[I" (.ref t) (lwA s) s s.heap ∧ va_T .int t 3 (fun j => .int (sT 2 j)) (lwA s) s s.heap := by
  have hf := flat_of_before _ hgv
  have harr : (Cond.arrayOf (Term.static "HexBilliards" "FIRST_SETTING" "[I") .int).before args s = true := hf _ (by decide +kernel)
  have hlen : (Term.length (Term.static "HexBilliards" "FIRST_SETTING" "[I")).eval args s none [] s = some (.int (Int32.ofNat 3)) := va_eqt (hf (Cond.eq (.length (Term.static "HexBilliards" "FIRST_SETTING" "[I")) (.int 3)) (by decide +kernel))
  have e0 : (Term.elem (Term.static "HexBilliards" "FIRST_SETTING" "[I") (.int (Int32.ofNat 0))).eval args s none [] s = some (.int (sT 2 0)) := va_eqt (hf (Cond.eq (.elem (Term.static "HexBilliards" "FIRST_SETTING" "[I") (.int 0)) (.int 90)) (by decide +kernel))
  have e1 : (Term.elem (Term.static "HexBilliards" "FIRST_SETTING" "[I") (.int (Int32.ofNat 1))).eval args s none [] s = some (.int (sT 2 1)) := va_eqt (hf (Cond.eq (.elem (Term.static "HexBilliards" "FIRST_SETTING" "[I") (.int 1)) (.int 80)) (by decide +kernel))
  have e2 : (Term.elem (Term.static "HexBilliards" "FIRST_SETTING" "[I") (.int (Int32.ofNat 2))).eval args s none [] s = some (.int (sT 2 2)) := va_eqt (hf (Cond.eq (.elem (Term.static "HexBilliards" "FIRST_SETTING" "[I") (.int 2)) (.int 70)) (by decide +kernel))
  obtain ⟨t, ht, hT⟩ := va_Tof (A := lwA s) (N := 3) (f := fun j => .int (sT 2 j)) (by decide) harr hlen (fun j hj => by
    match j, hj with
    | 0, _ => exact e0
    | 1, _ => exact e1
    | 2, _ => exact e2) (lwA_out s)
  exact ⟨t, va_Zof (hts _ (lt_k1 (List.mem_of_getElem? (i := 29) rfl))) (hts _ (lt_k1 (List.mem_of_getElem? (i := 1) rfl))) ht (lwA_out s), hT⟩
theorem law_s3 {args : Array Value} {s : State} (hts : ∀ w ∈ lw_tbl, w.before args s = true) (hgv : (Jvm.Cond.and given_1 narrow_1).before args s = true) : ∃ t : Nat, va_Z "HexBilliards$Felt" "STEP_Q" "[I" (.ref t) (lwA s) s s.heap ∧ va_T .int t 6 (fun j => .int (sT 3 j)) (lwA s) s s.heap := by
  have hf := flat_of_before _ hgv
  have harr : (Cond.arrayOf (Term.static "HexBilliards$Felt" "STEP_Q" "[I") .int).before args s = true := hf _ (by decide +kernel)
  have hlen : (Term.length (Term.static "HexBilliards$Felt" "STEP_Q" "[I")).eval args s none [] s = some (.int (Int32.ofNat 6)) := va_eqt (hf (Cond.eq (.length (Term.static "HexBilliards$Felt" "STEP_Q" "[I")) (.int 6)) (by decide +kernel))
  have e0 : (Term.elem (Term.static "HexBilliards$Felt" "STEP_Q" "[I") (.int (Int32.ofNat 0))).eval args s none [] s = some (.int (sT 3 0)) := va_eqt (hf (Cond.eq (.elem (Term.static "HexBilliards$Felt" "STEP_Q" "[I") (.int 0)) (.int 1)) (by decide +kernel))
  have e1 : (Term.elem (Term.static "HexBilliards$Felt" "STEP_Q" "[I") (.int (Int32.ofNat 1))).eval args s none [] s = some (.int (sT 3 1)) := va_eqt (hf (Cond.eq (.elem (Term.static "HexBilliards$Felt" "STEP_Q" "[I") (.int 1)) (.int 1)) (by decide +kernel))
  have e2 : (Term.elem (Term.static "HexBilliards$Felt" "STEP_Q" "[I") (.int (Int32.ofNat 2))).eval args s none [] s = some (.int (sT 3 2)) := va_eqt (hf (Cond.eq (.elem (Term.static "HexBilliards$Felt" "STEP_Q" "[I") (.int 2)) (.int 0)) (by decide +kernel))
  have e3 : (Term.elem (Term.static "HexBilliards$Felt" "STEP_Q" "[I") (.int (Int32.ofNat 3))).eval args s none [] s = some (.int (sT 3 3)) := va_eqt (hf (Cond.eq (.elem (Term.static "HexBilliards$Felt" "STEP_Q" "[I") (.int 3)) (.int (-1))) (by decide +kernel))
  have e4 : (Term.elem (Term.static "HexBilliards$Felt" "STEP_Q" "[I") (.int (Int32.ofNat 4))).eval args s none [] s = some (.int (sT 3 4)) := va_eqt (hf (Cond.eq (.elem (Term.static "HexBilliards$Felt" "STEP_Q" "[I") (.int 4)) (.int (-1))) (by decide +kernel))
  have e5 : (Term.elem (Term.static "HexBilliards$Felt" "STEP_Q" "[I") (.int (Int32.ofNat 5))).eval args s none [] s = some (.int (sT 3 5)) := va_eqt (hf (Cond.eq (.elem (Term.static "HexBilliards$Felt" "STEP_Q" "[I") (.int 5)) (.int 0)) (by decide +kernel))
  obtain ⟨t, ht, hT⟩ := va_Tof (A := lwA s) (N := 6) (f := fun j => .int (sT 3 j)) (by decide) harr hlen (fun j hj => by
    match j, hj with
    | 0, _ => exact e0
    | 1, _ => exact e1
    | 2, _ => exact e2
    | 3, _ => exact e3
    | 4, _ => exact e4
    | 5, _ => exact e5) (lwA_out s)
  exact ⟨t, va_Zof (hts _ (lt_k2 (List.mem_of_getElem? (i := 83) rfl))) (hts _ (lt_k1 (List.mem_of_getElem? (i := 9) rfl))) ht (lwA_out s), hT⟩
theorem law_s4 {args : Array Value} {s : State} (hts : ∀ w ∈ lw_tbl, w.before args s = true) (hgv : (Jvm.Cond.and given_1 narrow_1).before args s = true) : ∃ t : Nat, va_Z "HexBilliards$Felt" "STEP_R" "[I" (.ref t) (lwA s) s s.heap ∧ va_T .int t 6 (fun j => .int (sT 4 j)) (lwA s) s s.heap := by
  have hf := flat_of_before _ hgv
  have harr : (Cond.arrayOf (Term.static "HexBilliards$Felt" "STEP_R" "[I") .int).before args s = true := hf _ (by decide +kernel)
  have hlen : (Term.length (Term.static "HexBilliards$Felt" "STEP_R" "[I")).eval args s none [] s = some (.int (Int32.ofNat 6)) := va_eqt (hf (Cond.eq (.length (Term.static "HexBilliards$Felt" "STEP_R" "[I")) (.int 6)) (by decide +kernel))
  have e0 : (Term.elem (Term.static "HexBilliards$Felt" "STEP_R" "[I") (.int (Int32.ofNat 0))).eval args s none [] s = some (.int (sT 4 0)) := va_eqt (hf (Cond.eq (.elem (Term.static "HexBilliards$Felt" "STEP_R" "[I") (.int 0)) (.int 0)) (by decide +kernel))
  have e1 : (Term.elem (Term.static "HexBilliards$Felt" "STEP_R" "[I") (.int (Int32.ofNat 1))).eval args s none [] s = some (.int (sT 4 1)) := va_eqt (hf (Cond.eq (.elem (Term.static "HexBilliards$Felt" "STEP_R" "[I") (.int 1)) (.int (-1))) (by decide +kernel))
  have e2 : (Term.elem (Term.static "HexBilliards$Felt" "STEP_R" "[I") (.int (Int32.ofNat 2))).eval args s none [] s = some (.int (sT 4 2)) := va_eqt (hf (Cond.eq (.elem (Term.static "HexBilliards$Felt" "STEP_R" "[I") (.int 2)) (.int (-1))) (by decide +kernel))
  have e3 : (Term.elem (Term.static "HexBilliards$Felt" "STEP_R" "[I") (.int (Int32.ofNat 3))).eval args s none [] s = some (.int (sT 4 3)) := va_eqt (hf (Cond.eq (.elem (Term.static "HexBilliards$Felt" "STEP_R" "[I") (.int 3)) (.int 0)) (by decide +kernel))
  have e4 : (Term.elem (Term.static "HexBilliards$Felt" "STEP_R" "[I") (.int (Int32.ofNat 4))).eval args s none [] s = some (.int (sT 4 4)) := va_eqt (hf (Cond.eq (.elem (Term.static "HexBilliards$Felt" "STEP_R" "[I") (.int 4)) (.int 1)) (by decide +kernel))
  have e5 : (Term.elem (Term.static "HexBilliards$Felt" "STEP_R" "[I") (.int (Int32.ofNat 5))).eval args s none [] s = some (.int (sT 4 5)) := va_eqt (hf (Cond.eq (.elem (Term.static "HexBilliards$Felt" "STEP_R" "[I") (.int 5)) (.int 1)) (by decide +kernel))
  obtain ⟨t, ht, hT⟩ := va_Tof (A := lwA s) (N := 6) (f := fun j => .int (sT 4 j)) (by decide) harr hlen (fun j hj => by
    match j, hj with
    | 0, _ => exact e0
    | 1, _ => exact e1
    | 2, _ => exact e2
    | 3, _ => exact e3
    | 4, _ => exact e4
    | 5, _ => exact e5) (lwA_out s)
  exact ⟨t, va_Zof (hts _ (lt_k2 (List.mem_of_getElem? (i := 85) rfl))) (hts _ (lt_k1 (List.mem_of_getElem? (i := 9) rfl))) ht (lwA_out s), hT⟩
theorem law_s5 {args : Array Value} {s : State} (hts : ∀ w ∈ lw_tbl, w.before args s = true) (hgv : (Jvm.Cond.and given_1 narrow_1).before args s = true) : ∃ t : Nat, va_Z "HexBilliards$Felt" "CORNER_CELLS" "[I" (.ref t) (lwA s) s s.heap ∧ va_T .int t 6 (fun j => .int (sT 5 j)) (lwA s) s s.heap := by
  have hf := flat_of_before _ hgv
  have harr : (Cond.arrayOf (Term.static "HexBilliards$Felt" "CORNER_CELLS" "[I") .int).before args s = true := hf _ (by decide +kernel)
  have hlen : (Term.length (Term.static "HexBilliards$Felt" "CORNER_CELLS" "[I")).eval args s none [] s = some (.int (Int32.ofNat 6)) := va_eqt (hf (Cond.eq (.length (Term.static "HexBilliards$Felt" "CORNER_CELLS" "[I")) (.int 6)) (by decide +kernel))
  have e0 : (Term.elem (Term.static "HexBilliards$Felt" "CORNER_CELLS" "[I") (.int (Int32.ofNat 0))).eval args s none [] s = some (.int (sT 5 0)) := va_eqt (hf (Cond.eq (.elem (Term.static "HexBilliards$Felt" "CORNER_CELLS" "[I") (.int 0)) (.int 34)) (by decide +kernel))
  have e1 : (Term.elem (Term.static "HexBilliards$Felt" "CORNER_CELLS" "[I") (.int (Int32.ofNat 1))).eval args s none [] s = some (.int (sT 5 1)) := va_eqt (hf (Cond.eq (.elem (Term.static "HexBilliards$Felt" "CORNER_CELLS" "[I") (.int 1)) (.int 4)) (by decide +kernel))
  have e2 : (Term.elem (Term.static "HexBilliards$Felt" "CORNER_CELLS" "[I") (.int (Int32.ofNat 2))).eval args s none [] s = some (.int (sT 5 2)) := va_eqt (hf (Cond.eq (.elem (Term.static "HexBilliards$Felt" "CORNER_CELLS" "[I") (.int 2)) (.int 0)) (by decide +kernel))
  have e3 : (Term.elem (Term.static "HexBilliards$Felt" "CORNER_CELLS" "[I") (.int (Int32.ofNat 3))).eval args s none [] s = some (.int (sT 5 3)) := va_eqt (hf (Cond.eq (.elem (Term.static "HexBilliards$Felt" "CORNER_CELLS" "[I") (.int 3)) (.int 26)) (by decide +kernel))
  have e4 : (Term.elem (Term.static "HexBilliards$Felt" "CORNER_CELLS" "[I") (.int (Int32.ofNat 4))).eval args s none [] s = some (.int (sT 5 4)) := va_eqt (hf (Cond.eq (.elem (Term.static "HexBilliards$Felt" "CORNER_CELLS" "[I") (.int 4)) (.int 56)) (by decide +kernel))
  have e5 : (Term.elem (Term.static "HexBilliards$Felt" "CORNER_CELLS" "[I") (.int (Int32.ofNat 5))).eval args s none [] s = some (.int (sT 5 5)) := va_eqt (hf (Cond.eq (.elem (Term.static "HexBilliards$Felt" "CORNER_CELLS" "[I") (.int 5)) (.int 60)) (by decide +kernel))
  obtain ⟨t, ht, hT⟩ := va_Tof (A := lwA s) (N := 6) (f := fun j => .int (sT 5 j)) (by decide) harr hlen (fun j hj => by
    match j, hj with
    | 0, _ => exact e0
    | 1, _ => exact e1
    | 2, _ => exact e2
    | 3, _ => exact e3
    | 4, _ => exact e4
    | 5, _ => exact e5) (lwA_out s)
  exact ⟨t, va_Zof (hts _ (lt_k2 (List.mem_of_getElem? (i := 77) rfl))) (hts _ (lt_k1 (List.mem_of_getElem? (i := 9) rfl))) ht (lwA_out s), hT⟩
theorem law_s6 {args : Array Value} {s : State} (hts : ∀ w ∈ lw_tbl, w.before args s = true) (hgv : (Jvm.Cond.and given_1 narrow_1).before args s = true) : ∃ t : Nat, va_Z "HexBilliards$Felt" "FIRST_OF_ROW" "[I" (.ref t) (lwA s) s s.heap ∧ va_T .int t 9 (fun j => .int (sT 6 j)) (lwA s) s s.heap := by
  have hf := flat_of_before _ hgv
  have harr : (Cond.arrayOf (Term.static "HexBilliards$Felt" "FIRST_OF_ROW" "[I") .int).before args s = true := hf _ (by decide +kernel)
  have hlen : (Term.length (Term.static "HexBilliards$Felt" "FIRST_OF_ROW" "[I")).eval args s none [] s = some (.int (Int32.ofNat 9)) := va_eqt (hf (Cond.eq (.length (Term.static "HexBilliards$Felt" "FIRST_OF_ROW" "[I")) (.int 9)) (by decide +kernel))
  have e0 : (Term.elem (Term.static "HexBilliards$Felt" "FIRST_OF_ROW" "[I") (.int (Int32.ofNat 0))).eval args s none [] s = some (.int (sT 6 0)) := va_eqt (hf (Cond.eq (.elem (Term.static "HexBilliards$Felt" "FIRST_OF_ROW" "[I") (.int 0)) (.int 0)) (by decide +kernel))
  have e1 : (Term.elem (Term.static "HexBilliards$Felt" "FIRST_OF_ROW" "[I") (.int (Int32.ofNat 1))).eval args s none [] s = some (.int (sT 6 1)) := va_eqt (hf (Cond.eq (.elem (Term.static "HexBilliards$Felt" "FIRST_OF_ROW" "[I") (.int 1)) (.int 5)) (by decide +kernel))
  have e2 : (Term.elem (Term.static "HexBilliards$Felt" "FIRST_OF_ROW" "[I") (.int (Int32.ofNat 2))).eval args s none [] s = some (.int (sT 6 2)) := va_eqt (hf (Cond.eq (.elem (Term.static "HexBilliards$Felt" "FIRST_OF_ROW" "[I") (.int 2)) (.int 11)) (by decide +kernel))
  have e3 : (Term.elem (Term.static "HexBilliards$Felt" "FIRST_OF_ROW" "[I") (.int (Int32.ofNat 3))).eval args s none [] s = some (.int (sT 6 3)) := va_eqt (hf (Cond.eq (.elem (Term.static "HexBilliards$Felt" "FIRST_OF_ROW" "[I") (.int 3)) (.int 18)) (by decide +kernel))
  have e4 : (Term.elem (Term.static "HexBilliards$Felt" "FIRST_OF_ROW" "[I") (.int (Int32.ofNat 4))).eval args s none [] s = some (.int (sT 6 4)) := va_eqt (hf (Cond.eq (.elem (Term.static "HexBilliards$Felt" "FIRST_OF_ROW" "[I") (.int 4)) (.int 26)) (by decide +kernel))
  have e5 : (Term.elem (Term.static "HexBilliards$Felt" "FIRST_OF_ROW" "[I") (.int (Int32.ofNat 5))).eval args s none [] s = some (.int (sT 6 5)) := va_eqt (hf (Cond.eq (.elem (Term.static "HexBilliards$Felt" "FIRST_OF_ROW" "[I") (.int 5)) (.int 35)) (by decide +kernel))
  have e6 : (Term.elem (Term.static "HexBilliards$Felt" "FIRST_OF_ROW" "[I") (.int (Int32.ofNat 6))).eval args s none [] s = some (.int (sT 6 6)) := va_eqt (hf (Cond.eq (.elem (Term.static "HexBilliards$Felt" "FIRST_OF_ROW" "[I") (.int 6)) (.int 43)) (by decide +kernel))
  have e7 : (Term.elem (Term.static "HexBilliards$Felt" "FIRST_OF_ROW" "[I") (.int (Int32.ofNat 7))).eval args s none [] s = some (.int (sT 6 7)) := va_eqt (hf (Cond.eq (.elem (Term.static "HexBilliards$Felt" "FIRST_OF_ROW" "[I") (.int 7)) (.int 50)) (by decide +kernel))
  have e8 : (Term.elem (Term.static "HexBilliards$Felt" "FIRST_OF_ROW" "[I") (.int (Int32.ofNat 8))).eval args s none [] s = some (.int (sT 6 8)) := va_eqt (hf (Cond.eq (.elem (Term.static "HexBilliards$Felt" "FIRST_OF_ROW" "[I") (.int 8)) (.int 56)) (by decide +kernel))
  obtain ⟨t, ht, hT⟩ := va_Tof (A := lwA s) (N := 9) (f := fun j => .int (sT 6 j)) (by decide) harr hlen (fun j hj => by
    match j, hj with
    | 0, _ => exact e0
    | 1, _ => exact e1
    | 2, _ => exact e2
    | 3, _ => exact e3
    | 4, _ => exact e4
    | 5, _ => exact e5
    | 6, _ => exact e6
    | 7, _ => exact e7
    | 8, _ => exact e8) (lwA_out s)
  exact ⟨t, va_Zof (hts _ (lt_k2 (List.mem_of_getElem? (i := 67) rfl))) (hts _ (lt_k1 (List.mem_of_getElem? (i := 9) rfl))) ht (lwA_out s), hT⟩
theorem law_nl {args : Array Value} {s : State} (hts : ∀ w ∈ lw_tbl, w.before args s = true) : Nst s := by
  intro w hw0
  have hw := hw0
  have hm : w ∈ lw_tbl := by
    rcases List.mem_cons.mp hw with rfl | hw
    · exact lt_k1 (List.mem_of_getElem? (i := 54) rfl)
    rcases List.mem_cons.mp hw with rfl | hw
    · exact lt_k1 (List.mem_of_getElem? (i := 179) rfl)
    rcases List.mem_cons.mp hw with rfl | hw
    · exact lt_k1 (List.mem_of_getElem? (i := 56) rfl)
    rcases List.mem_cons.mp hw with rfl | hw
    · exact lt_k1 (List.mem_of_getElem? (i := 116) rfl)
    rcases List.mem_cons.mp hw with rfl | hw
    · exact lt_k1 (List.mem_of_getElem? (i := 102) rfl)
    rcases List.mem_cons.mp hw with rfl | hw
    · exact lt_k1 (List.mem_of_getElem? (i := 34) rfl)
    rcases List.mem_cons.mp hw with rfl | hw
    · exact lt_k1 (List.mem_of_getElem? (i := 36) rfl)
    rcases List.mem_cons.mp hw with rfl | hw
    · exact lt_k1 (List.mem_of_getElem? (i := 38) rfl)
    rcases List.mem_cons.mp hw with rfl | hw
    · exact lt_k1 (List.mem_of_getElem? (i := 40) rfl)
    rcases List.mem_cons.mp hw with rfl | hw
    · exact lt_k1 (List.mem_of_getElem? (i := 42) rfl)
    rcases List.mem_cons.mp hw with rfl | hw
    · exact lt_k1 (List.mem_of_getElem? (i := 173) rfl)
    rcases List.mem_cons.mp hw with rfl | hw
    · exact lt_k1 (List.mem_of_getElem? (i := 175) rfl)
    rcases List.mem_cons.mp hw with rfl | hw
    · exact lt_k1 (List.mem_of_getElem? (i := 177) rfl)
    rcases List.mem_cons.mp hw with rfl | hw
    · exact lt_k1 (List.mem_of_getElem? (i := 167) rfl)
    rcases List.mem_cons.mp hw with rfl | hw
    · exact lt_k1 (List.mem_of_getElem? (i := 169) rfl)
    rcases List.mem_cons.mp hw with rfl | hw
    · exact lt_k1 (List.mem_of_getElem? (i := 165) rfl)
    rcases List.mem_cons.mp hw with rfl | hw
    · exact lt_k1 (List.mem_of_getElem? (i := 156) rfl)
    rcases List.mem_cons.mp hw with rfl | hw
    · exact lt_k1 (List.mem_of_getElem? (i := 152) rfl)
    rcases List.mem_cons.mp hw with rfl | hw
    · exact lt_k1 (List.mem_of_getElem? (i := 154) rfl)
    rcases List.mem_cons.mp hw with rfl | hw
    · exact lt_k1 (List.mem_of_getElem? (i := 50) rfl)
    rcases List.mem_cons.mp hw with rfl | hw
    · exact lt_k1 (List.mem_of_getElem? (i := 48) rfl)
    rcases List.mem_cons.mp hw with rfl | hw
    · exact lt_k1 (List.mem_of_getElem? (i := 58) rfl)
    rcases List.mem_cons.mp hw with rfl | hw
    · exact lt_k1 (List.mem_of_getElem? (i := 60) rfl)
    rcases List.mem_cons.mp hw with rfl | hw
    · exact lt_k1 (List.mem_of_getElem? (i := 119) rfl)
    rcases List.mem_cons.mp hw with rfl | hw
    · exact lt_k1 (List.mem_of_getElem? (i := 52) rfl)
    rcases List.mem_cons.mp hw with rfl | hw
    · exact lt_k1 (List.mem_of_getElem? (i := 45) rfl)
    rcases List.mem_cons.mp hw with rfl | hw
    · exact lt_k1 (List.mem_of_getElem? (i := 46) rfl)
    rcases List.mem_cons.mp hw with rfl | hw
    · exact lt_k1 (List.mem_of_getElem? (i := 28) rfl)
    rcases List.mem_cons.mp hw with rfl | hw
    · exact lt_k1 (List.mem_of_getElem? (i := 110) rfl)
    rcases List.mem_cons.mp hw with rfl | hw
    · exact lt_k1 (List.mem_of_getElem? (i := 141) rfl)
    rcases List.mem_cons.mp hw with rfl | hw
    · exact lt_k1 (List.mem_of_getElem? (i := 147) rfl)
    rcases List.mem_cons.mp hw with rfl | hw
    · exact lt_k3 (List.mem_of_getElem? (i := 66) rfl)
    exact absurd hw List.not_mem_nil
  exact va_Nw.of (nest_tabs (List.all_eq_true.mp NL_nest w (by assumption))) (hts w hm)
theorem law_ao {args : Array Value} {s : State} (hts : ∀ w ∈ lw_tbl, w.before args s = true) : va_AO RX4 s := va_AO.of (hts _ (lt_k1 (List.mem_of_getElem? (i := 98) rfl)))
theorem law_env {args : Array Value} {s : State} (hts : ∀ w ∈ lw_tbl, w.before args s = true) (hgv : (Jvm.Cond.and given_1 narrow_1).before args s = true) : ∃ E : Ev, va_K E.1 vwCl (tyL E) s ∧ Stt E (lwA s) s s.heap := by
  have hts0 : ∀ w ∈ T0, w.before args s = true := fun w h => hts w (T0_tbl w h)
  obtain ⟨D, hD⟩ := law_kn hts0
  obtain ⟨cI, aI, fI⟩ := arr_of (hts0 _ wac_int)
  obtain ⟨cC, aC, fC⟩ := arr_of (hts0 _ wac_char)
  obtain ⟨comp, cS, kS, g1, -, g3, g4, g5⟩ := Cond.arrayOver_spec (va_AO.use (A := args) (law_ao hts))
  obtain ⟨t0, z0, y0⟩ := law_s0 hts hgv
  obtain ⟨t1, z1, y1⟩ := law_s1 hts hgv
  obtain ⟨t2, z2, y2⟩ := law_s2 hts hgv
  obtain ⟨t3, z3, y3⟩ := law_s3 hts hgv
  obtain ⟨t4, z4, y4⟩ := law_s4 hts hgv
  obtain ⟨t5, z5, y5⟩ := law_s5 hts hgv
  obtain ⟨t6, z6, y6⟩ := law_s6 hts hgv
  refine ⟨(D, (cI, cC, cS), fun i => [t0, t1, t2, t3, t4, t5, t6].getD i t0), ⟨hD, fun k q hq => ?_⟩, fun i q hq => ?_⟩
  · match k, hq with
    | 0, hq => cases hq; exact ⟨aI, fI⟩
    | 1, hq => cases hq; exact ⟨aC, fC⟩
    | 2, hq => cases hq; exact ⟨fun n z => ⟨fun k h => (by cases h), kS, g3, comp, g4⟩, kS, comp, g3, g4, g1, g5⟩
    | k + 3, hq => simp [tyL] at hq
  · match i, hq with
    | 0, hq => cases hq; exact ⟨z0, y0⟩
    | 1, hq => cases hq; exact ⟨z1, y1⟩
    | 2, hq => cases hq; exact ⟨z2, y2⟩
    | 3, hq => cases hq; exact ⟨z3, y3⟩
    | 4, hq => cases hq; exact ⟨z4, y4⟩
    | 5, hq => cases hq; exact ⟨z5, y5⟩
    | 6, hq => cases hq; exact ⟨z6, y6⟩
    | i + 7, hq => simp [sL] at hq
/-! the first state of both felts -/
/-- the first row -/
def st0 : N1 := fun j => if j = 0 then 90 else if j = 1 then 80 else if j = 2 then 70 else if j = 3 then 63 else if 13 ≤ j ∧ j < 25 then (-5) else 0
theorem st0_row {j : Nat} (h : 13 ≤ j ∧ j < 25) : st0 j = (-5) := by
  unfold st0
  rw [if_neg (by omega), if_neg (by omega), if_neg (by omega), if_neg (by omega), if_pos h]
theorem st0_z {j : Nat} (h : 4 ≤ j) (h2 : ¬ (13 ≤ j ∧ j < 25)) : st0 j = 0 := by
  unfold st0
  rw [if_neg (by omega), if_neg (by omega), if_neg (by omega), if_neg (by omega), if_neg h2]
theorem sg_0 : sgI 0 = fun _ => (-5) := rfl
theorem sg_5 : sgI 5 = fun _ => (-5) := rfl
theorem sg_6 : sgI 6 = sT 2 := rfl
theorem sg_8 : sgI 8 = upd (fun _ => 0) 1 63 := rfl
theorem sg_z {i : Nat} (h0 : ¬ i = 0) (h5 : ¬ i = 5) (h6 : ¬ i = 6) (h8 : ¬ i = 8) : sgI i = fun _ => 0 := by
  unfold sgI
  rw [u2_row h8, up_ne h6, up_ne h5, up_ne h0]
  rfl
theorem cls_start : sgI = cls st0 := by
  have z : ∀ (r b : Nat), 25 ≤ b → (∀ j, cls st0 r j = if j < 12 then st0 (b + j) else 0) → (fun _ => (0 : Int32)) = cls st0 r := by
    intro r b hb h
    funext j
    rw [h j]
    split
    · rw [st0_z (by omega) (by omega)]
    · rfl
  refine cls_rows ?_ ?_ ?_ ?_ ?_ ?_ ?_ ?_ ?_ (fun i hi => sg_z (by omega) (by omega) (by omega) (by omega))
  · rw [sg_0]
    funext j
    by_cases hj : j < 12
    · rw [cls_0 hj, st0_row (by omega)]
    · simp [cls, hj]
  · rw [sg_z (by decide) (by decide) (by decide) (by decide)]
    exact z 1 25 (by omega) (fun j => by simp [cls])
  · rw [sg_z (by decide) (by decide) (by decide) (by decide)]
    exact z 2 37 (by omega) (fun j => by simp [cls])
  · rw [sg_z (by decide) (by decide) (by decide) (by decide)]
    exact z 3 49 (by omega) (fun j => by simp [cls])
  · rw [sg_z (by decide) (by decide) (by decide) (by decide)]
    exact z 4 61 (by omega) (fun j => by simp [cls])
  · rw [sg_5]
    funext j
    by_cases hj : j < 61
    · rw [cls_5 hj, bo_non (fun i hi => by rw [st0_row (by omega)]; exact fun q => nI_no (show j < 1000 by omega) q.symm)]
    · simp [cls, hj]
  · rw [sg_6]
    funext j
    match j with
    | 0 => rfl
    | 1 => rfl
    | 2 => rfl
    | j + 3 =>
      simp [cls]
      rfl
  · rw [sg_z (by decide) (by decide) (by decide) (by decide)]
    funext j
    by_cases hj : j < 2
    · rw [cls_7 hj, st0_z (by omega) (by omega)]
    · simp [cls, hj]
  · rw [sg_8]
    funext j
    match j with
    | 0 => rw [cls_80, st0_z (by omega) (by omega)]; rfl
    | 1 => rw [cls_81]; rfl
    | 2 => rw [cls_82, st0_z (by omega) (by omega)]; rfl
    | 3 => rw [cls_83, st0_z (by omega) (by omega)]; rfl
    | 4 => rw [cls_84, st0_z (by omega) (by omega)]; rfl
    | 5 => rw [cls_85, st0_z (by omega) (by omega)]; rfl
    | j + 6 => simp [cls, upd]
theorem rt_st0 : rt st0 = st0 := by
  funext j
  unfold rt
  by_cases h3 : j = 3
  · rw [if_pos h3, h3]
    decide
  · rw [if_neg h3]
    by_cases h : 13 ≤ j ∧ j < 25
    · rw [if_pos h, st0_row h]
      decide
    · rw [if_neg h]
theorem gG_start : gG 0 st0 := by
  have e0 : (0 : Int32).toInt = 0 := rfl
  have z : ∀ j, 4 ≤ j → ¬ (13 ≤ j ∧ j < 25) → st0 j = 0 := fun j h1 h2 => st0_z h1 h2
  have on0 : ∀ n, n ≤ 12 → onN st0 n = 0 := by
    intro n
    induction n with
    | zero => intro _; rfl
    | succ n ih =>
      intro hn
      unfold onN
      rw [if_pos (st0_row (by omega)), ih (by omega)]
  refine ⟨⟨⟨?_, fun b hb => Or.inr (st0_row (by omega)), trivial⟩, fun a b ha hb _ => Or.inl (st0_row (by omega)), fun b hb _ => st0_row (by omega), Or.inl (z 4 (by omega) (by omega))⟩, ?_, fun i hi => ?_, fun j h1 h2 => ?_, fun b hb => ⟨fun h => ?_, fun _ => z (37 + b) (by omega) (by omega)⟩, ?_⟩
  · rw [z 12 (by omega) (by omega)]
    decide
  · unfold gP
    exact vin_c rfl
  · match i, hi with
    | 0, _ => exact (show gK 90 from ⟨by decide, by decide⟩)
    | 1, _ => exact (show gK 80 from ⟨by decide, by decide⟩)
    | 2, _ => exact (show gK 70 from ⟨by decide, by decide⟩)
  · rw [z j (by omega) (by omega), e0]
    omega
  · rw [z 12 (by omega) (by omega), e0] at h
    omega
  · unfold gC
    rw [z 5 (by omega) (by omega), z 9 (by omega) (by omega), z 8 (by omega) (by omega), z 12 (by omega) (by omega), z 6 (by omega) (by omega), z 7 (by omega) (by omega), on0 12 (by omega), e0]
    omega
/-- an object's first numbers -/
def So0 : So := (sgI, zgI, tgI, (0, sgI, sgI, 0, zgI), (0, 0, fun _ => sgI))
theorem SB_start : SB st0 So0 := by
  refine ⟨cls_start, fun j hj => rfl, ?_⟩
  show 0 ≤ (tgI 3 0).toInt
  rw [show tgI 3 0 = 0 from rfl]
  decide
theorem BI_start : BI 0 st0 So0 So0 := ⟨gG_start, SB_start, by rw [rt_st0]; exact SB_start⟩
/-! the script's cell -/
section
variable {p : Program} {l : Launch} {e : Env} {R : Room} {s : State} {m : MethodId} {args : Array Value} {below : List Frame} {meth : Method} {c : Code} {H : Heap} {locs : List Loc}
variable {cc : ByteArray} {nL : Nat} {own : String} {E : Ev} {wc wc' : va_W} {pc : Nat} {ls : Array Slot}
theorem r_eiret (X : Cx p m meth c cc nL s args own E (hB wc)) (w : Wd E (hB wc) s wc' H locs) (hr : meth.sig.returnType = some .int) {v : Int32} {K : Int32 → va_W → Prop} (hK : K v wc') (ha : wc'.map Prod.fst = wc.map Prod.fst) (hdg : decode cc pc = .ok (.ireturn, 1)) : W p l e R s m args below meth c H locs 0 0 (MQ below (QE E wc K) args s 0 0 (hB wc)) (F0 m pc ls [.int v]) :=
  W.iret X.1 X.2.1 hr (fun t ht hW => ⟨⟨v, wc', rfl, ⟨hK, ha⟩, by show va_P E.1 vwCl wc' t.heap; rw [ht]; exact w.1⟩, w.2.2.F ht⟩) w.fr hdg X.2.2.2.2.2.2.2.2
end
theorem dL_cell_0 : decode cL_cell 0 = .ok (.iload_n 1, 1) := by decide +kernel
theorem dL_cell_1 : decode cL_cell 1 = .ok (.aload_n 0, 1) := by decide +kernel
theorem dL_cell_2 : decode cL_cell 2 = .ok (.arraylength, 1) := by decide +kernel
theorem dL_cell_3 : decode cL_cell 3 = .ok (.if_icmp .ge 9, 3) := by decide +kernel
theorem dL_cell_6 : decode cL_cell 6 = .ok (.aload_n 0, 1) := by decide +kernel
theorem dL_cell_7 : decode cL_cell 7 = .ok (.iload_n 1, 1) := by decide +kernel
theorem dL_cell_8 : decode cL_cell 8 = .ok (.iaload, 1) := by decide +kernel
theorem dL_cell_9 : decode cL_cell 9 = .ok (.goto 11, 3) := by decide +kernel
theorem dL_cell_12 : decode cL_cell 12 = .ok (.ldc 7, 2) := by decide +kernel
theorem dL_cell_14 : decode cL_cell 14 = .ok (.iload_n 1, 1) := by decide +kernel
theorem dL_cell_15 : decode cL_cell 15 = .ok (.sipush 1279, 3) := by decide +kernel
theorem dL_cell_18 : decode cL_cell 18 = .ok (.iadd, 1) := by decide +kernel
theorem dL_cell_19 : decode cL_cell 19 = .ok (.imul, 1) := by decide +kernel
theorem dL_cell_20 : decode cL_cell 20 = .ok (.ireturn, 1) := by decide +kernel
theorem ck_L_96 : CkS RL 96 yL_cell cL_cell 2 (some .int) 2 := ⟨wm_L_96, wst_yL_cell, wi_L, wc_yL_cell, by decide +kernel⟩
theorem kL_cell (l : Launch) (E : Ev) (b L : Nat) (xs : Nat → Int32) (k : Int32) (hL : L ≤ 260) (hk : 0 ≤ k.toInt) : KX l yL_cell cL_cell 2 (some .int) 0 0 E [.ref b, .int k] b L xs (QE E [] (fun _ w' => w' = [])) := by
  refine KX.mk RL rfl (by decide +kernel) (Nat.le_of_ble_eq_true rfl) ?_
  intro p e s m below meth c ls X hr hX w hl
  have hx := X.1
  have hb := X.2.1
  have hbl : b < s.heap.size := by
    obtain ⟨scr, h, -⟩ := hX
    exact (Array.getElem?_eq_some_iff.mp h).1
  have hbA : ¬ hB [] b := by
    rintro ⟨i, q, h⟩
    simp at h
  have hl : lv_has ls 2 [(0, .ref b), (1, .int k)] := hl
  refine lv_iload_n hx hb dL_cell_0 rfl (lv_at hl 1 rfl) ?_
  refine lv_aload_n hx hb dL_cell_1 rfl (lv_at hl 0 rfl) ?_
  refine va_slen hx hb hX hbl hbA w.2.2 dL_cell_2 ?_
  refine lv_icmp_ge (tgt := 12) hx hb dL_cell_3 (by decide) (fun c3 => ?_) (fun c3 => ?_)
  · refine r_ldci X wk_L_7 dL_cell_12 ?_
    refine lv_iload_n hx hb dL_cell_14 rfl (lv_at hl 1 rfl) ?_
    refine lv_sipush (v := 1279) hx hb dL_cell_15 (by decide) ?_
    refine lv_iadd hx hb dL_cell_18 ?_
    refine lv_imul hx hb dL_cell_19 ?_
    exact r_eiret X w hr rfl rfl dL_cell_20
  · have hin : vp_in k L := by
      rw [vp_in_iff]
      have e : (Int32.ofNat L).toInt = (L : Int) := toI (show L < 1000 by omega)
      rw [Int32.le_iff_toInt_le, e] at c3
      omega
    refine lv_aload_n hx hb dL_cell_6 rfl (lv_at hl 0 rfl) ?_
    refine lv_iload_n hx hb dL_cell_7 rfl (lv_at hl 1 rfl) ?_
    refine va_sld hx hb hX hbl hbA w.2.2 hin dL_cell_8 ?_
    refine lv_goto (tgt := 20) hx hb dL_cell_9 (by decide) ?_
    exact r_eiret X w hr rfl rfl dL_cell_20
