/-! the law's start: the environment, the first state (printed by wip/whole/gen/p43.py) -/
def lwA (s : State) : Nat → Prop := fun q => s.heap.size ≤ q
theorem lwA_out (s : State) : ∀ a : Nat, a < s.heap.size → ¬ lwA s a := fun a h q => absurd h (Nat.not_lt.mpr q)
theorem arr_of {args : Array Value} {s : State} {ty : FieldType} (h : (Cond.arrayClass ty).before args s = true) : ∃ cA : ClassId, ArrOfT s cA ty ∧ s.vm.findClass ("[" ++ ty.toString) = some cA := by
  obtain ⟨cA, kA, comp, hf, hk, hkind⟩ := Cond.arrayClass_spec h
  exact ⟨cA, fun n z => ⟨fun k h => (by cases h), kA, hk, comp, hkind⟩, hf⟩
theorem law_kn {args : Array Value} {s : State} (hts : ∀ w ∈ T0, w.before args s = true) : ∃ D : va_G, ∀ (k : Nat) (q : vw_C), vwCl[k]? = some q → u_Kn s q.1 q.2.1 q.2.2 (D.1 k) (D.2 k) := by
  obtain ⟨c0, i0, h0⟩ := u_known (C := RX0) (T := TX0) (N := 7) (n := 7) hts T0X0 (hts _ wn_X0)
  obtain ⟨c1, i1, h1⟩ := u_known (C := RX2) (T := TX2) (N := 2) (n := 2) hts T0X2 (hts _ wn_X2)
  obtain ⟨c2, i2, h2⟩ := u_known (C := RX3) (T := TX3) (N := 9) (n := 9) hts T0X3 (hts _ wn_X3)
  obtain ⟨c3, i3, h3⟩ := u_known (C := RX4) (T := TX4) (N := 14) (n := 14) hts T0X4 (hts _ wn_X4)
  obtain ⟨c4, i4, h4⟩ := u_known (C := RX5) (T := TX5) (N := 3) (n := 3) hts T0X5 (hts _ wn_X5)
  obtain ⟨c5, i5, h5⟩ := u_known (C := RX6) (T := TX6) (N := 7) (n := 7) hts T0X6 (hts _ wn_X6)
  obtain ⟨c6, i6, h6⟩ := u_known (C := RX7) (T := TX7) (N := 25) (n := 25) hts T0X7 (hts _ wn_X7)
  refine ⟨(fun k => [c0, c1, c2, c3, c4, c5, c6].getD k c0, fun k => [i0, i1, i2, i3, i4, i5, i6].getD k i0), ?_⟩
  intro k q hq
  match k, hq with
  | 0, hq => cases hq; exact h0
  | 1, hq => cases hq; exact h1
  | 2, hq => cases hq; exact h2
  | 3, hq => cases hq; exact h3
  | 4, hq => cases hq; exact h4
  | 5, hq => cases hq; exact h5
  | 6, hq => cases hq; exact h6
  | k + 7, hq => simp at hq
theorem law_s0 {args : Array Value} {s : State} (hts : ∀ w ∈ lw_tbl, w.before args s = true) (hgv : (Jvm.Cond.and given_1 narrow_1).before args s = true) : ∃ t : Nat, va_Z "HexBilliards" "LOWEST_SETTING" "[I" (.ref t) (lwA s) s s.heap ∧ va_T .int t 3 (fun j => .int (sT 0 j)) (lwA s) s s.heap := by
  have hf := flat_of_before _ hgv
  have harr : (Cond.arrayOf (Term.static "HexBilliards" "LOWEST_SETTING" "[I") .int).before args s = true := hf _ (by decide +kernel)
  have hlen : (Term.length (Term.static "HexBilliards" "LOWEST_SETTING" "[I")).eval args s none [] s = some (.int (Int32.ofNat 3)) := va_eqt (hf (Cond.eq (.length (Term.static "HexBilliards" "LOWEST_SETTING" "[I")) (.int 3)) (by decide +kernel))
  have e0 : (Term.elem (Term.static "HexBilliards" "LOWEST_SETTING" "[I") (.int (Int32.ofNat 0))).eval args s none [] s = some (.int (sT 0 0)) := va_eqt (hf (Cond.eq (.elem (Term.static "HexBilliards" "LOWEST_SETTING" "[I") (.int 0)) (.int 50)) (by decide +kernel))
  have e1 : (Term.elem (Term.static "HexBilliards" "LOWEST_SETTING" "[I") (.int (Int32.ofNat 1))).eval args s none [] s = some (.int (sT 0 1)) := va_eqt (hf (Cond.eq (.elem (Term.static "HexBilliards" "LOWEST_SETTING" "[I") (.int 1)) (.int 50)) (by decide +kernel))
  have e2 : (Term.elem (Term.static "HexBilliards" "LOWEST_SETTING" "[I") (.int (Int32.ofNat 2))).eval args s none [] s = some (.int (sT 0 2)) := va_eqt (hf (Cond.eq (.elem (Term.static "HexBilliards" "LOWEST_SETTING" "[I") (.int 2)) (.int 50)) (by decide +kernel))
  obtain ⟨t, ht, hT⟩ := va_Tof (A := lwA s) (N := 3) (f := fun j => .int (sT 0 j)) (by decide) harr hlen (fun j hj => by
    match j, hj with
    | 0, _ => exact e0
    | 1, _ => exact e1
    | 2, _ => exact e2) (lwA_out s)
  exact ⟨t, va_Zof (hts _ (lt_k2 (List.mem_of_getElem? (i := 90) rfl))) (hts _ (lt_k1 (List.mem_of_getElem? (i := 1) rfl))) ht (lwA_out s), hT⟩
theorem law_s1 {args : Array Value} {s : State} (hts : ∀ w ∈ lw_tbl, w.before args s = true) (hgv : (Jvm.Cond.and given_1 narrow_1).before args s = true) : ∃ t : Nat, va_Z "HexBilliards" "HIGHEST_SETTING" "[I" (.ref t) (lwA s) s s.heap ∧ va_T .int t 3 (fun j => .int (sT 1 j)) (lwA s) s s.heap := by
  have hf := flat_of_before _ hgv
  have harr : (Cond.arrayOf (Term.static "HexBilliards" "HIGHEST_SETTING" "[I") .int).before args s = true := hf _ (by decide +kernel)
  have hlen : (Term.length (Term.static "HexBilliards" "HIGHEST_SETTING" "[I")).eval args s none [] s = some (.int (Int32.ofNat 3)) := va_eqt (hf (Cond.eq (.length (Term.static "HexBilliards" "HIGHEST_SETTING" "[I")) (.int 3)) (by decide +kernel))
  have e0 : (Term.elem (Term.static "HexBilliards" "HIGHEST_SETTING" "[I") (.int (Int32.ofNat 0))).eval args s none [] s = some (.int (sT 1 0)) := va_eqt (hf (Cond.eq (.elem (Term.static "HexBilliards" "HIGHEST_SETTING" "[I") (.int 0)) (.int 99)) (by decide +kernel))
  have e1 : (Term.elem (Term.static "HexBilliards" "HIGHEST_SETTING" "[I") (.int (Int32.ofNat 1))).eval args s none [] s = some (.int (sT 1 1)) := va_eqt (hf (Cond.eq (.elem (Term.static "HexBilliards" "HIGHEST_SETTING" "[I") (.int 1)) (.int 100)) (by decide +kernel))
  have e2 : (Term.elem (Term.static "HexBilliards" "HIGHEST_SETTING" "[I") (.int (Int32.ofNat 2))).eval args s none [] s = some (.int (sT 1 2)) := va_eqt (hf (Cond.eq (.elem (Term.static "HexBilliards" "HIGHEST_SETTING" "[I") (.int 2)) (.int 99)) (by decide +kernel))
  obtain ⟨t, ht, hT⟩ := va_Tof (A := lwA s) (N := 3) (f := fun j => .int (sT 1 j)) (by decide) harr hlen (fun j hj => by
    match j, hj with
    | 0, _ => exact e0
    | 1, _ => exact e1
    | 2, _ => exact e2) (lwA_out s)
  exact ⟨t, va_Zof (hts _ (lt_k2 (List.mem_of_getElem? (i := 92) rfl))) (hts _ (lt_k1 (List.mem_of_getElem? (i := 1) rfl))) ht (lwA_out s), hT⟩
theorem law_s2 {args : Array Value} {s : State} (hts : ∀ w ∈ lw_tbl, w.before args s = true) (hgv : (Jvm.Cond.and given_1 narrow_1).before args s = true) : ∃ t : Nat, va_Z "HexBilliards" "FIRST_SETTING" "[I" (.ref t) (lwA s) s s.heap ∧ va_T .int t 3 (fun j => .int (sT 2 j)) (lwA s) s s.heap := by
  have hf := flat_of_before _ hgv
  have harr : (Cond.arrayOf (Term.static "HexBilliards" "FIRST_SETTING" "[I") .int).before args s = true := hf _ (by decide +kernel)
  have hlen : (Term.length (Term.static "HexBilliards" "FIRST_SETTING" "[I")).eval args s none [] s = some (.int (Int32.ofNat 3)) := va_eqt (hf (Cond.eq (.length (Term.static "HexBilliards" "FIRST_SETTING" "[I")) (.int 3)) (by decide +kernel))
  have e0 : (Term.elem (Term.static "HexBilliards" "FIRST_SETTING" "[I") (.int (Int32.ofNat 0))).eval args s none [] s = some (.int (sT 2 0)) := va_eqt (hf (Cond.eq (.elem (Term.static "HexBilliards" "FIRST_SETTING" "[I") (.int 0)) (.int 90)) (by decide +kernel))
  have e1 : (Term.elem (Term.static "HexBilliards" "FIRST_SETTING" "[I") (.int (Int32.ofNat 1))).eval args s none [] s = some (.int (sT 2 1)) := va_eqt (hf (Cond.eq (.elem (Term.static "HexBilliards" "FIRST_SETTING" "[I") (.int 1)) (.int 80)) (by decide +kernel))
  have e2 : (Term.elem (Term.static "HexBilliards" "FIRST_SETTING" "[I") (.int (Int32.ofNat 2))).eval args s none [] s = some (.int (sT 2 2)) := va_eqt (hf (Cond.eq (.elem (Term.static "HexBilliards" "FIRST_SETTING" "[I") (.int 2)) (.int 70)) (by decide +kernel))
  obtain ⟨t, ht, hT⟩ := va_Tof (A := lwA s) (N := 3) (f := fun j => .int (sT 2 j)) (by decide) harr hlen (fun j hj => by
    match j, hj with
    | 0, _ => exact e0
    | 1, _ => exact e1
    | 2, _ => exact e2) (lwA_out s)
  exact ⟨t, va_Zof (hts _ (lt_k1 (List.mem_of_getElem? (i := 30) rfl))) (hts _ (lt_k1 (List.mem_of_getElem? (i := 1) rfl))) ht (lwA_out s), hT⟩
theorem law_s3 {args : Array Value} {s : State} (hts : ∀ w ∈ lw_tbl, w.before args s = true) (hgv : (Jvm.Cond.and given_1 narrow_1).before args s = true) : ∃ t : Nat, va_Z "HexBilliards$Felt" "STEP_Q" "[I" (.ref t) (lwA s) s s.heap ∧ va_T .int t 6 (fun j => .int (sT 3 j)) (lwA s) s s.heap := by
  have hf := flat_of_before _ hgv
  have harr : (Cond.arrayOf (Term.static "HexBilliards$Felt" "STEP_Q" "[I") .int).before args s = true := hf _ (by decide +kernel)
  have hlen : (Term.length (Term.static "HexBilliards$Felt" "STEP_Q" "[I")).eval args s none [] s = some (.int (Int32.ofNat 6)) := va_eqt (hf (Cond.eq (.length (Term.static "HexBilliards$Felt" "STEP_Q" "[I")) (.int 6)) (by decide +kernel))
  have e0 : (Term.elem (Term.static "HexBilliards$Felt" "STEP_Q" "[I") (.int (Int32.ofNat 0))).eval args s none [] s = some (.int (sT 3 0)) := va_eqt (hf (Cond.eq (.elem (Term.static "HexBilliards$Felt" "STEP_Q" "[I") (.int 0)) (.int 1)) (by decide +kernel))
  have e1 : (Term.elem (Term.static "HexBilliards$Felt" "STEP_Q" "[I") (.int (Int32.ofNat 1))).eval args s none [] s = some (.int (sT 3 1)) := va_eqt (hf (Cond.eq (.elem (Term.static "HexBilliards$Felt" "STEP_Q" "[I") (.int 1)) (.int 1)) (by decide +kernel))
  have e2 : (Term.elem (Term.static "HexBilliards$Felt" "STEP_Q" "[I") (.int (Int32.ofNat 2))).eval args s none [] s = some (.int (sT 3 2)) := va_eqt (hf (Cond.eq (.elem (Term.static "HexBilliards$Felt" "STEP_Q" "[I") (.int 2)) (.int 0)) (by decide +kernel))
  have e3 : (Term.elem (Term.static "HexBilliards$Felt" "STEP_Q" "[I") (.int (Int32.ofNat 3))).eval args s none [] s = some (.int (sT 3 3)) := va_eqt (hf (Cond.eq (.elem (Term.static "HexBilliards$Felt" "STEP_Q" "[I") (.int 3)) (.int (-1))) (by decide +kernel))
  have e4 : (Term.elem (Term.static "HexBilliards$Felt" "STEP_Q" "[I") (.int (Int32.ofNat 4))).eval args s none [] s = some (.int (sT 3 4)) := va_eqt (hf (Cond.eq (.elem (Term.static "HexBilliards$Felt" "STEP_Q" "[I") (.int 4)) (.int (-1))) (by decide +kernel))
  have e5 : (Term.elem (Term.static "HexBilliards$Felt" "STEP_Q" "[I") (.int (Int32.ofNat 5))).eval args s none [] s = some (.int (sT 3 5)) := va_eqt (hf (Cond.eq (.elem (Term.static "HexBilliards$Felt" "STEP_Q" "[I") (.int 5)) (.int 0)) (by decide +kernel))
  obtain ⟨t, ht, hT⟩ := va_Tof (A := lwA s) (N := 6) (f := fun j => .int (sT 3 j)) (by decide) harr hlen (fun j hj => by
    match j, hj with
    | 0, _ => exact e0
    | 1, _ => exact e1
    | 2, _ => exact e2
    | 3, _ => exact e3
    | 4, _ => exact e4
    | 5, _ => exact e5) (lwA_out s)
  exact ⟨t, va_Zof (hts _ (lt_k2 (List.mem_of_getElem? (i := 141) rfl))) (hts _ (lt_k1 (List.mem_of_getElem? (i := 10) rfl))) ht (lwA_out s), hT⟩
theorem law_s4 {args : Array Value} {s : State} (hts : ∀ w ∈ lw_tbl, w.before args s = true) (hgv : (Jvm.Cond.and given_1 narrow_1).before args s = true) : ∃ t : Nat, va_Z "HexBilliards$Felt" "STEP_R" "[I" (.ref t) (lwA s) s s.heap ∧ va_T .int t 6 (fun j => .int (sT 4 j)) (lwA s) s s.heap := by
  have hf := flat_of_before _ hgv
  have harr : (Cond.arrayOf (Term.static "HexBilliards$Felt" "STEP_R" "[I") .int).before args s = true := hf _ (by decide +kernel)
  have hlen : (Term.length (Term.static "HexBilliards$Felt" "STEP_R" "[I")).eval args s none [] s = some (.int (Int32.ofNat 6)) := va_eqt (hf (Cond.eq (.length (Term.static "HexBilliards$Felt" "STEP_R" "[I")) (.int 6)) (by decide +kernel))
  have e0 : (Term.elem (Term.static "HexBilliards$Felt" "STEP_R" "[I") (.int (Int32.ofNat 0))).eval args s none [] s = some (.int (sT 4 0)) := va_eqt (hf (Cond.eq (.elem (Term.static "HexBilliards$Felt" "STEP_R" "[I") (.int 0)) (.int 0)) (by decide +kernel))
  have e1 : (Term.elem (Term.static "HexBilliards$Felt" "STEP_R" "[I") (.int (Int32.ofNat 1))).eval args s none [] s = some (.int (sT 4 1)) := va_eqt (hf (Cond.eq (.elem (Term.static "HexBilliards$Felt" "STEP_R" "[I") (.int 1)) (.int (-1))) (by decide +kernel))
  have e2 : (Term.elem (Term.static "HexBilliards$Felt" "STEP_R" "[I") (.int (Int32.ofNat 2))).eval args s none [] s = some (.int (sT 4 2)) := va_eqt (hf (Cond.eq (.elem (Term.static "HexBilliards$Felt" "STEP_R" "[I") (.int 2)) (.int (-1))) (by decide +kernel))
  have e3 : (Term.elem (Term.static "HexBilliards$Felt" "STEP_R" "[I") (.int (Int32.ofNat 3))).eval args s none [] s = some (.int (sT 4 3)) := va_eqt (hf (Cond.eq (.elem (Term.static "HexBilliards$Felt" "STEP_R" "[I") (.int 3)) (.int 0)) (by decide +kernel))
  have e4 : (Term.elem (Term.static "HexBilliards$Felt" "STEP_R" "[I") (.int (Int32.ofNat 4))).eval args s none [] s = some (.int (sT 4 4)) := va_eqt (hf (Cond.eq (.elem (Term.static "HexBilliards$Felt" "STEP_R" "[I") (.int 4)) (.int 1)) (by decide +kernel))
  have e5 : (Term.elem (Term.static "HexBilliards$Felt" "STEP_R" "[I") (.int (Int32.ofNat 5))).eval args s none [] s = some (.int (sT 4 5)) := va_eqt (hf (Cond.eq (.elem (Term.static "HexBilliards$Felt" "STEP_R" "[I") (.int 5)) (.int 1)) (by decide +kernel))
  obtain ⟨t, ht, hT⟩ := va_Tof (A := lwA s) (N := 6) (f := fun j => .int (sT 4 j)) (by decide) harr hlen (fun j hj => by
    match j, hj with
    | 0, _ => exact e0
    | 1, _ => exact e1
    | 2, _ => exact e2
    | 3, _ => exact e3
    | 4, _ => exact e4
    | 5, _ => exact e5) (lwA_out s)
  exact ⟨t, va_Zof (hts _ (lt_k2 (List.mem_of_getElem? (i := 146) rfl))) (hts _ (lt_k1 (List.mem_of_getElem? (i := 10) rfl))) ht (lwA_out s), hT⟩
theorem law_s5 {args : Array Value} {s : State} (hts : ∀ w ∈ lw_tbl, w.before args s = true) (hgv : (Jvm.Cond.and given_1 narrow_1).before args s = true) : ∃ t : Nat, va_Z "HexBilliards$Felt" "CORNER_CELLS" "[I" (.ref t) (lwA s) s s.heap ∧ va_T .int t 6 (fun j => .int (sT 5 j)) (lwA s) s s.heap := by
  have hf := flat_of_before _ hgv
  have harr : (Cond.arrayOf (Term.static "HexBilliards$Felt" "CORNER_CELLS" "[I") .int).before args s = true := hf _ (by decide +kernel)
  have hlen : (Term.length (Term.static "HexBilliards$Felt" "CORNER_CELLS" "[I")).eval args s none [] s = some (.int (Int32.ofNat 6)) := va_eqt (hf (Cond.eq (.length (Term.static "HexBilliards$Felt" "CORNER_CELLS" "[I")) (.int 6)) (by decide +kernel))
  have e0 : (Term.elem (Term.static "HexBilliards$Felt" "CORNER_CELLS" "[I") (.int (Int32.ofNat 0))).eval args s none [] s = some (.int (sT 5 0)) := va_eqt (hf (Cond.eq (.elem (Term.static "HexBilliards$Felt" "CORNER_CELLS" "[I") (.int 0)) (.int 34)) (by decide +kernel))
  have e1 : (Term.elem (Term.static "HexBilliards$Felt" "CORNER_CELLS" "[I") (.int (Int32.ofNat 1))).eval args s none [] s = some (.int (sT 5 1)) := va_eqt (hf (Cond.eq (.elem (Term.static "HexBilliards$Felt" "CORNER_CELLS" "[I") (.int 1)) (.int 4)) (by decide +kernel))
  have e2 : (Term.elem (Term.static "HexBilliards$Felt" "CORNER_CELLS" "[I") (.int (Int32.ofNat 2))).eval args s none [] s = some (.int (sT 5 2)) := va_eqt (hf (Cond.eq (.elem (Term.static "HexBilliards$Felt" "CORNER_CELLS" "[I") (.int 2)) (.int 0)) (by decide +kernel))
  have e3 : (Term.elem (Term.static "HexBilliards$Felt" "CORNER_CELLS" "[I") (.int (Int32.ofNat 3))).eval args s none [] s = some (.int (sT 5 3)) := va_eqt (hf (Cond.eq (.elem (Term.static "HexBilliards$Felt" "CORNER_CELLS" "[I") (.int 3)) (.int 26)) (by decide +kernel))
  have e4 : (Term.elem (Term.static "HexBilliards$Felt" "CORNER_CELLS" "[I") (.int (Int32.ofNat 4))).eval args s none [] s = some (.int (sT 5 4)) := va_eqt (hf (Cond.eq (.elem (Term.static "HexBilliards$Felt" "CORNER_CELLS" "[I") (.int 4)) (.int 56)) (by decide +kernel))
  have e5 : (Term.elem (Term.static "HexBilliards$Felt" "CORNER_CELLS" "[I") (.int (Int32.ofNat 5))).eval args s none [] s = some (.int (sT 5 5)) := va_eqt (hf (Cond.eq (.elem (Term.static "HexBilliards$Felt" "CORNER_CELLS" "[I") (.int 5)) (.int 60)) (by decide +kernel))
  obtain ⟨t, ht, hT⟩ := va_Tof (A := lwA s) (N := 6) (f := fun j => .int (sT 5 j)) (by decide) harr hlen (fun j hj => by
    match j, hj with
    | 0, _ => exact e0
    | 1, _ => exact e1
    | 2, _ => exact e2
    | 3, _ => exact e3
    | 4, _ => exact e4
    | 5, _ => exact e5) (lwA_out s)
  exact ⟨t, va_Zof (hts _ (lt_k2 (List.mem_of_getElem? (i := 203) rfl))) (hts _ (lt_k1 (List.mem_of_getElem? (i := 10) rfl))) ht (lwA_out s), hT⟩
theorem law_s6 {args : Array Value} {s : State} (hts : ∀ w ∈ lw_tbl, w.before args s = true) (hgv : (Jvm.Cond.and given_1 narrow_1).before args s = true) : ∃ t : Nat, va_Z "HexBilliards$Felt" "FIRST_OF_ROW" "[I" (.ref t) (lwA s) s s.heap ∧ va_T .int t 9 (fun j => .int (sT 6 j)) (lwA s) s s.heap := by
  have hf := flat_of_before _ hgv
  have harr : (Cond.arrayOf (Term.static "HexBilliards$Felt" "FIRST_OF_ROW" "[I") .int).before args s = true := hf _ (by decide +kernel)
  have hlen : (Term.length (Term.static "HexBilliards$Felt" "FIRST_OF_ROW" "[I")).eval args s none [] s = some (.int (Int32.ofNat 9)) := va_eqt (hf (Cond.eq (.length (Term.static "HexBilliards$Felt" "FIRST_OF_ROW" "[I")) (.int 9)) (by decide +kernel))
  have e0 : (Term.elem (Term.static "HexBilliards$Felt" "FIRST_OF_ROW" "[I") (.int (Int32.ofNat 0))).eval args s none [] s = some (.int (sT 6 0)) := va_eqt (hf (Cond.eq (.elem (Term.static "HexBilliards$Felt" "FIRST_OF_ROW" "[I") (.int 0)) (.int 0)) (by decide +kernel))
  have e1 : (Term.elem (Term.static "HexBilliards$Felt" "FIRST_OF_ROW" "[I") (.int (Int32.ofNat 1))).eval args s none [] s = some (.int (sT 6 1)) := va_eqt (hf (Cond.eq (.elem (Term.static "HexBilliards$Felt" "FIRST_OF_ROW" "[I") (.int 1)) (.int 5)) (by decide +kernel))
  have e2 : (Term.elem (Term.static "HexBilliards$Felt" "FIRST_OF_ROW" "[I") (.int (Int32.ofNat 2))).eval args s none [] s = some (.int (sT 6 2)) := va_eqt (hf (Cond.eq (.elem (Term.static "HexBilliards$Felt" "FIRST_OF_ROW" "[I") (.int 2)) (.int 11)) (by decide +kernel))
  have e3 : (Term.elem (Term.static "HexBilliards$Felt" "FIRST_OF_ROW" "[I") (.int (Int32.ofNat 3))).eval args s none [] s = some (.int (sT 6 3)) := va_eqt (hf (Cond.eq (.elem (Term.static "HexBilliards$Felt" "FIRST_OF_ROW" "[I") (.int 3)) (.int 18)) (by decide +kernel))
  have e4 : (Term.elem (Term.static "HexBilliards$Felt" "FIRST_OF_ROW" "[I") (.int (Int32.ofNat 4))).eval args s none [] s = some (.int (sT 6 4)) := va_eqt (hf (Cond.eq (.elem (Term.static "HexBilliards$Felt" "FIRST_OF_ROW" "[I") (.int 4)) (.int 26)) (by decide +kernel))
  have e5 : (Term.elem (Term.static "HexBilliards$Felt" "FIRST_OF_ROW" "[I") (.int (Int32.ofNat 5))).eval args s none [] s = some (.int (sT 6 5)) := va_eqt (hf (Cond.eq (.elem (Term.static "HexBilliards$Felt" "FIRST_OF_ROW" "[I") (.int 5)) (.int 35)) (by decide +kernel))
  have e6 : (Term.elem (Term.static "HexBilliards$Felt" "FIRST_OF_ROW" "[I") (.int (Int32.ofNat 6))).eval args s none [] s = some (.int (sT 6 6)) := va_eqt (hf (Cond.eq (.elem (Term.static "HexBilliards$Felt" "FIRST_OF_ROW" "[I") (.int 6)) (.int 43)) (by decide +kernel))
  have e7 : (Term.elem (Term.static "HexBilliards$Felt" "FIRST_OF_ROW" "[I") (.int (Int32.ofNat 7))).eval args s none [] s = some (.int (sT 6 7)) := va_eqt (hf (Cond.eq (.elem (Term.static "HexBilliards$Felt" "FIRST_OF_ROW" "[I") (.int 7)) (.int 50)) (by decide +kernel))
  have e8 : (Term.elem (Term.static "HexBilliards$Felt" "FIRST_OF_ROW" "[I") (.int (Int32.ofNat 8))).eval args s none [] s = some (.int (sT 6 8)) := va_eqt (hf (Cond.eq (.elem (Term.static "HexBilliards$Felt" "FIRST_OF_ROW" "[I") (.int 8)) (.int 56)) (by decide +kernel))
  obtain ⟨t, ht, hT⟩ := va_Tof (A := lwA s) (N := 9) (f := fun j => .int (sT 6 j)) (by decide) harr hlen (fun j hj => by
    match j, hj with
    | 0, _ => exact e0
    | 1, _ => exact e1
    | 2, _ => exact e2
    | 3, _ => exact e3
    | 4, _ => exact e4
    | 5, _ => exact e5
    | 6, _ => exact e6
    | 7, _ => exact e7
    | 8, _ => exact e8) (lwA_out s)
  exact ⟨t, va_Zof (hts _ (lt_k2 (List.mem_of_getElem? (i := 125) rfl))) (hts _ (lt_k1 (List.mem_of_getElem? (i := 10) rfl))) ht (lwA_out s), hT⟩
theorem law_nl {args : Array Value} {s : State} (hts : ∀ w ∈ lw_tbl, w.before args s = true) : Nst s := by
  intro w hw0
  have hw := hw0
  have hm : w ∈ lw_tbl := by
    rcases List.mem_cons.mp hw with rfl | hw
    · exact lt_k1 (List.mem_of_getElem? (i := 55) rfl)
    rcases List.mem_cons.mp hw with rfl | hw
    · exact lt_k1 (List.mem_of_getElem? (i := 180) rfl)
    rcases List.mem_cons.mp hw with rfl | hw
    · exact lt_k1 (List.mem_of_getElem? (i := 57) rfl)
    rcases List.mem_cons.mp hw with rfl | hw
    · exact lt_k1 (List.mem_of_getElem? (i := 117) rfl)
    rcases List.mem_cons.mp hw with rfl | hw
    · exact lt_k1 (List.mem_of_getElem? (i := 103) rfl)
    rcases List.mem_cons.mp hw with rfl | hw
    · exact lt_k1 (List.mem_of_getElem? (i := 35) rfl)
    rcases List.mem_cons.mp hw with rfl | hw
    · exact lt_k1 (List.mem_of_getElem? (i := 37) rfl)
    rcases List.mem_cons.mp hw with rfl | hw
    · exact lt_k1 (List.mem_of_getElem? (i := 39) rfl)
    rcases List.mem_cons.mp hw with rfl | hw
    · exact lt_k1 (List.mem_of_getElem? (i := 41) rfl)
    rcases List.mem_cons.mp hw with rfl | hw
    · exact lt_k1 (List.mem_of_getElem? (i := 43) rfl)
    rcases List.mem_cons.mp hw with rfl | hw
    · exact lt_k1 (List.mem_of_getElem? (i := 174) rfl)
    rcases List.mem_cons.mp hw with rfl | hw
    · exact lt_k1 (List.mem_of_getElem? (i := 176) rfl)
    rcases List.mem_cons.mp hw with rfl | hw
    · exact lt_k1 (List.mem_of_getElem? (i := 178) rfl)
    rcases List.mem_cons.mp hw with rfl | hw
    · exact lt_k1 (List.mem_of_getElem? (i := 168) rfl)
    rcases List.mem_cons.mp hw with rfl | hw
    · exact lt_k1 (List.mem_of_getElem? (i := 170) rfl)
    rcases List.mem_cons.mp hw with rfl | hw
    · exact lt_k1 (List.mem_of_getElem? (i := 166) rfl)
    rcases List.mem_cons.mp hw with rfl | hw
    · exact lt_k1 (List.mem_of_getElem? (i := 157) rfl)
    rcases List.mem_cons.mp hw with rfl | hw
    · exact lt_k1 (List.mem_of_getElem? (i := 153) rfl)
    rcases List.mem_cons.mp hw with rfl | hw
    · exact lt_k1 (List.mem_of_getElem? (i := 155) rfl)
    rcases List.mem_cons.mp hw with rfl | hw
    · exact lt_k1 (List.mem_of_getElem? (i := 51) rfl)
    rcases List.mem_cons.mp hw with rfl | hw
    · exact lt_k1 (List.mem_of_getElem? (i := 49) rfl)
    rcases List.mem_cons.mp hw with rfl | hw
    · exact lt_k1 (List.mem_of_getElem? (i := 59) rfl)
    rcases List.mem_cons.mp hw with rfl | hw
    · exact lt_k1 (List.mem_of_getElem? (i := 61) rfl)
    rcases List.mem_cons.mp hw with rfl | hw
    · exact lt_k1 (List.mem_of_getElem? (i := 120) rfl)
    rcases List.mem_cons.mp hw with rfl | hw
    · exact lt_k1 (List.mem_of_getElem? (i := 53) rfl)
    rcases List.mem_cons.mp hw with rfl | hw
    · exact lt_k1 (List.mem_of_getElem? (i := 46) rfl)
    rcases List.mem_cons.mp hw with rfl | hw
    · exact lt_k1 (List.mem_of_getElem? (i := 47) rfl)
    rcases List.mem_cons.mp hw with rfl | hw
    · exact lt_k1 (List.mem_of_getElem? (i := 29) rfl)
    rcases List.mem_cons.mp hw with rfl | hw
    · exact lt_k1 (List.mem_of_getElem? (i := 111) rfl)
    rcases List.mem_cons.mp hw with rfl | hw
    · exact lt_k1 (List.mem_of_getElem? (i := 142) rfl)
    rcases List.mem_cons.mp hw with rfl | hw
    · exact lt_k1 (List.mem_of_getElem? (i := 148) rfl)
    rcases List.mem_cons.mp hw with rfl | hw
    · exact lt_k2 (List.mem_of_getElem? (i := 225) rfl)
    exact absurd hw List.not_mem_nil
  exact va_Nw.of (nest_tabs (List.all_eq_true.mp NL_nest w (by assumption))) (hts w hm)
theorem law_ao {args : Array Value} {s : State} (hts : ∀ w ∈ lw_tbl, w.before args s = true) : va_AO RX4 s := va_AO.of (hts _ (lt_k1 (List.mem_of_getElem? (i := 99) rfl)))
theorem law_env {args : Array Value} {s : State} (hts : ∀ w ∈ lw_tbl, w.before args s = true) (hgv : (Jvm.Cond.and given_1 narrow_1).before args s = true) : ∃ E : Ev, va_K E.1 vwCl (tyL E) s ∧ Stt E (lwA s) s s.heap := by
  have hts0 : ∀ w ∈ T0, w.before args s = true := fun w h => hts w (T0_tbl w h)
  obtain ⟨D, hD⟩ := law_kn hts0
  obtain ⟨cI, aI, fI⟩ := arr_of (hts0 _ wac_int)
  obtain ⟨cC, aC, fC⟩ := arr_of (hts0 _ wac_char)
  obtain ⟨comp, cS, kS, g1, -, g3, g4, g5⟩ := Cond.arrayOver_spec (va_AO.use (A := args) (law_ao hts))
  obtain ⟨t0, z0, y0⟩ := law_s0 hts hgv
  obtain ⟨t1, z1, y1⟩ := law_s1 hts hgv
  obtain ⟨t2, z2, y2⟩ := law_s2 hts hgv
  obtain ⟨t3, z3, y3⟩ := law_s3 hts hgv
  obtain ⟨t4, z4, y4⟩ := law_s4 hts hgv
  obtain ⟨t5, z5, y5⟩ := law_s5 hts hgv
  obtain ⟨t6, z6, y6⟩ := law_s6 hts hgv
  refine ⟨(D, (cI, cC, cS), fun i => [t0, t1, t2, t3, t4, t5, t6].getD i t0), ⟨hD, fun k q hq => ?_⟩, fun i q hq => ?_⟩
  · match k, hq with
    | 0, hq => cases hq; exact ⟨aI, fI⟩
    | 1, hq => cases hq; exact ⟨aC, fC⟩
    | 2, hq => cases hq; exact ⟨fun n z => ⟨fun k h => (by cases h), kS, g3, comp, g4⟩, kS, comp, g3, g4, g1, g5⟩
    | k + 3, hq => simp [tyL] at hq
  · match i, hq with
    | 0, hq => cases hq; exact ⟨z0, y0⟩
    | 1, hq => cases hq; exact ⟨z1, y1⟩
    | 2, hq => cases hq; exact ⟨z2, y2⟩
    | 3, hq => cases hq; exact ⟨z3, y3⟩
    | 4, hq => cases hq; exact ⟨z4, y4⟩
    | 5, hq => cases hq; exact ⟨z5, y5⟩
    | 6, hq => cases hq; exact ⟨z6, y6⟩
    | i + 7, hq => simp [sL] at hq
/-! the first state -/
theorem mF_row {j : Nat} (h : 13 ≤ j ∧ j < 25) : mF 12 0 j = (-5) := by
  unfold mF
  simp [show ¬ j = 0 by omega, show ¬ j = 1 by omega, show ¬ j = 2 by omega, show ¬ j = 3 by omega, h]
theorem mF_zero {j : Nat} (h : 4 ≤ j) (h2 : ¬ (13 ≤ j ∧ j < 25)) : mF 12 0 j = 0 := by
  unfold mF
  simp [show ¬ j = 0 by omega, show ¬ j = 1 by omega, show ¬ j = 2 by omega, show ¬ j = 3 by omega]
  omega
theorem mF_hi {i : Nat} (h0 : ¬ i = 0) (h5 : ¬ i = 5) (h6 : ¬ i = 6) (h7 : ¬ i = 7) : mF 12 i = fun _ => 0 := by
  funext j
  unfold mF mI
  simp [h0, h5, h6, h7]
theorem sg_0 : sgI 0 = fun _ => (-5) := rfl
theorem sg_5 : sgI 5 = fun _ => (-5) := rfl
theorem sg_6 : sgI 6 = sT 2 := rfl
theorem sg_8 : sgI 8 = upd (fun _ => 0) 1 63 := rfl
theorem sg_z {i : Nat} (h0 : ¬ i = 0) (h5 : ¬ i = 5) (h6 : ¬ i = 6) (h8 : ¬ i = 8) : sgI i = fun _ => 0 := by
  unfold sgI
  rw [u2_row h8, up_ne h6, up_ne h5, up_ne h0]
  rfl
theorem cls_start : sgI = cls (mF 12 0) := by
  have z : ∀ (r b : Nat), 25 ≤ b → (∀ j, cls (mF 12 0) r j = if j < 12 then mF 12 0 (b + j) else 0) → (fun _ => (0 : Int32)) = cls (mF 12 0) r := by
    intro r b hb h
    funext j
    rw [h j]
    split
    · rw [mF_zero (by omega) (by omega)]
    · rfl
  refine cls_rows ?_ ?_ ?_ ?_ ?_ ?_ ?_ ?_ ?_ (fun i hi => sg_z (by omega) (by omega) (by omega) (by omega))
  · rw [sg_0]
    funext j
    by_cases hj : j < 12
    · rw [cls_0 hj, mF_row (by omega)]
    · simp [cls, hj]
  · rw [sg_z (by decide) (by decide) (by decide) (by decide)]
    exact z 1 25 (by omega) (fun j => by simp [cls])
  · rw [sg_z (by decide) (by decide) (by decide) (by decide)]
    exact z 2 37 (by omega) (fun j => by simp [cls])
  · rw [sg_z (by decide) (by decide) (by decide) (by decide)]
    exact z 3 49 (by omega) (fun j => by simp [cls])
  · rw [sg_z (by decide) (by decide) (by decide) (by decide)]
    exact z 4 61 (by omega) (fun j => by simp [cls])
  · rw [sg_5]
    funext j
    by_cases hj : j < 61
    · rw [cls_5 hj, bo_non (fun i hi => by rw [mF_row (by omega)]; exact fun q => nI_no (show j < 1000 by omega) q.symm)]
    · simp [cls, hj]
  · rw [sg_6]
    funext j
    match j with
    | 0 => rfl
    | 1 => rfl
    | 2 => rfl
    | j + 3 =>
      simp [cls]
      rfl
  · rw [sg_z (by decide) (by decide) (by decide) (by decide)]
    funext j
    by_cases hj : j < 2
    · rw [cls_7 hj, mF_zero (by omega) (by omega)]
    · simp [cls, hj]
  · rw [sg_8]
    funext j
    match j with
    | 0 => rw [cls_80, mF_zero (by omega) (by omega)]; rfl
    | 1 => rw [cls_81]; rfl
    | 2 => rw [cls_82, mF_zero (by omega) (by omega)]; rfl
    | 3 => rw [cls_83, mF_zero (by omega) (by omega)]; rfl
    | 4 => rw [cls_84, mF_zero (by omega) (by omega)]; rfl
    | 5 => rw [cls_85, mF_zero (by omega) (by omega)]; rfl
    | j + 6 => simp [cls, upd]
theorem gM_start : gM (mF 12 0) := by
  have e12 : mF 12 0 12 = 0 := mF_zero (by omega) (by omega)
  refine ⟨⟨⟨?_, fun b hb => Or.inr (mF_row (by omega)), fun i hi => ?_, ?_, ?_⟩, fun a b ha hb _ => Or.inl (mF_row (by omega)), fun b hb _ => mF_row (by omega), Or.inl (mF_zero (by omega) (by omega))⟩, ?_, ?_, fun b hb h => ?_⟩
  · rw [e12]
    decide
  · match i, hi with
    | 0, _ => exact (show gK 90 from ⟨by decide, by decide⟩)
    | 1, _ => exact (show gK 80 from ⟨by decide, by decide⟩)
    | 2, _ => exact (show gK 70 from ⟨by decide, by decide⟩)
  · exact (by decide : ¬ (90 : Int32) = 100)
  · exact (by decide : ¬ (70 : Int32) = 100)
  · rw [← cls_start, sg_z (by decide) (by decide) (by decide) (by decide), mF_zero (by omega) (by omega)]
    rfl
  · rw [← cls_start, sg_z (by decide) (by decide) (by decide) (by decide), mF_zero (by omega) (by omega)]
    rfl
  · rw [e12, Int32.toInt_zero] at h
    omega
theorem REL_start : REL 0 sgI sgI 0 0 (fun _ => sgI) tgI (mF 12) := by
  have h9 : mF 12 9 = fun _ => 0 := mF_hi (by decide) (by decide) (by decide) (by decide)
  have h8 : mF 12 8 = fun _ => 0 := mF_hi (by decide) (by decide) (by decide) (by decide)
  refine ⟨cls_start, gM_start, mF_tab, by rw [h9], ⟨by rw [mF_hi (i := 4) (by decide) (by decide) (by decide) (by decide)]; decide, fun q => absurd (by rw [h9]) q⟩, ⟨?_, by rw [h9], fun i hi => ?_⟩, ?_, by rw [h9]; rfl, fun j hj => by rw [h8]; rfl⟩
  · unfold gH
    rw [h9]
    decide
  · rw [h9, Int32.toInt_zero] at hi
    omega
  · unfold gT
    rw [h9]
    decide
