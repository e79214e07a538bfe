/-! ROWS over Cx and Wd -/
section RW
variable {p : Program} {l : Launch} {e : Env} {R : Room} {s : State} {m : MethodId} {args : Array Value} {below : List Frame} {meth : Method} {c : Code} {H : Heap} {locs : List Loc} {cells slots : Nat} {Q : State → Prop}
variable {cc : ByteArray} {nL : Nat} {own : String} {E : Ev} {A : Nat → Prop} {ws : va_W} {pc : Nat} {ls : Array Slot} {rest : List Value} {a : Nat}
/-- a class of ours: its place, its fields' words, types and names -/
def CL (ci : Nat) (C : String) (T : u_T) (N : Nat) (ty : Nat → FieldType) : Prop := (∀ w ∈ u_ws C T N, w ∈ T0) ∧ vwCl[ci]? = some (C, T, N) ∧ (∀ k, k < N → parseFieldDescriptor (T k).2.2.1 = some (ty k)) ∧ (∀ a, a < N → ∀ b, b < N → a ≠ b → (T a).2.1 ≠ (T b).2.1) ∧ (∀ k, k < N → (T k).1 = C)
theorem CL0 : CL 0 RX0 TX0 7 tyX0 := ⟨T0X0, rfl, tyX0_ok, nmX0, by decide +kernel⟩
theorem CL2 : CL 1 RX2 TX2 2 tyX2 := ⟨T0X2, rfl, tyX2_ok, nmX2, by decide +kernel⟩
theorem CL3 : CL 2 RX3 TX3 9 tyX3 := ⟨T0X3, rfl, tyX3_ok, nmX3, by decide +kernel⟩
theorem CL4 : CL 3 RX4 TX4 14 tyX4 := ⟨T0X4, rfl, tyX4_ok, nmX4, by decide +kernel⟩
theorem CL5 : CL 4 RX5 TX5 3 tyX5 := ⟨T0X5, rfl, tyX5_ok, nmX5, by decide +kernel⟩
theorem CL6 : CL 5 RX6 TX6 7 tyX6 := ⟨T0X6, rfl, tyX6_ok, nmX6, by decide +kernel⟩
theorem r_get (X : Cx p m meth c cc nL s args own E A) (w : Wd E A s ws H locs) {index ci N : Nat} {C : String} {T : u_T} {ty : Nat → FieldType} (f : CL ci C T N ty) (k : Nat) (hk : k < N) (hlink : Cond.fieldLink own index C (T k).2.1 (T k).2.2.1 ∈ T0) (q0 : Nat) {fs : List Value} (he : ws[q0]? = some (a, .inr (ci, fs))) {v : Value} (hv : fs[k]? = some v) (hdg : decode cc pc = .ok (.getfield index, 3))
    (kk : W p l e R s m args below meth c H locs cells slots Q (F0 m (pc + 3) ls (v :: rest))) : W p l e R s m args below meth c H locs cells slots Q (F0 m pc ls (.ref a :: rest)) := by
  obtain ⟨hx, hb, hml, hown, hts, hK, hT, hN, hlk⟩ := X
  exact va_get hx hb hts f.1 hown hK w.1 q0 he f.2.1 k hk (hts _ hlink) (by rw [f.2.2.2.2 k hk]; exact fun _ h => h) hv hdg kk
theorem r_getN (X : Cx p m meth c cc nL s args own E A) (w : Wd E A s ws H locs) {index ci N : Nat} {C : String} {T : u_T} {ty : Nat → FieldType} (f : CL ci C T N ty) (k : Nat) (hk : k < N) {host : String} (hlink : Cond.fieldLinkNest own index C (T k).2.1 (T k).2.2.1 host ∈ NL) (q0 : Nat) {fs : List Value} (he : ws[q0]? = some (a, .inr (ci, fs))) {v : Value} (hv : fs[k]? = some v) (hdg : decode cc pc = .ok (.getfield index, 3))
    (kk : W p l e R s m args below meth c H locs cells slots Q (F0 m (pc + 3) ls (v :: rest))) : W p l e R s m args below meth c H locs cells slots Q (F0 m pc ls (.ref a :: rest)) := by
  obtain ⟨hx, hb, hml, hown, hts, hK, hT, hN, hlk⟩ := X
  exact va_getN hx hb hts f.1 hown hK w.1 q0 he f.2.1 k hk (va_Nw.use rfl (hN _ hlink)) (by rw [f.2.2.2.2 k hk]; exact fun _ h => h) hv hdg kk
theorem r_put (X : Cx p m meth c cc nL s args own E A) (w : Wd E A s ws H locs) (ws' : va_W) {index ci N : Nat} {C : String} {T : u_T} {ty : Nat → FieldType} (f : CL ci C T N ty) (k : Nat) (hk : k < N) (hlink : Cond.fieldLink own index C (T k).2.1 (T k).2.2.1 ∈ T0) (q0 : Nat) {fs : List Value} (he : ws[q0]? = some (a, .inr (ci, fs))) {v : Value} (hfin : (T k).2.2.2 = false) (hn : narrow (ty k) v = v) (hfit : fits (ty k) v = true) (hl : k < fs.length) (hw : ws.set q0 (a, .inr (ci, fs.set k v)) = ws') (hdg : decode cc pc = .ok (.putfield index, 3))
    (kk : ∀ (H1 : Heap) (locs1 : List Loc), Wd E A s ws' H1 locs1 → W p l e R s m args below meth c H1 locs1 cells slots Q (F0 m (pc + 3) ls rest)) : W p l e R s m args below meth c H locs cells slots Q (F0 m pc ls (v :: .ref a :: rest)) := by
  obtain ⟨hx, hb, hml, hown, hts, hK, hT, hN, hlk⟩ := X
  subst hw
  exact va_put hx hb hts f.1 ty f.2.2.1 f.2.2.2.1 hown hK w.1 w.2.1 w.2.2 q0 he f.2.1 k hk (hts _ hlink) (by rw [f.2.2.2.2 k hk]; exact fun _ h => h) hfin (f.2.2.1 k hk) hn hfit hl hdg (fun H1 locs1 h1 h2 h3 => kk H1 locs1 ⟨h1, h2, h3⟩)
theorem r_putN (X : Cx p m meth c cc nL s args own E A) (w : Wd E A s ws H locs) (ws' : va_W) {index ci N : Nat} {C : String} {T : u_T} {ty : Nat → FieldType} (f : CL ci C T N ty) (k : Nat) (hk : k < N) {host : String} (hlink : Cond.fieldLinkNest own index C (T k).2.1 (T k).2.2.1 host ∈ NL) (q0 : Nat) {fs : List Value} (he : ws[q0]? = some (a, .inr (ci, fs))) {v : Value} (hfin : (T k).2.2.2 = false) (hn : narrow (ty k) v = v) (hfit : fits (ty k) v = true) (hl : k < fs.length) (hw : ws.set q0 (a, .inr (ci, fs.set k v)) = ws') (hdg : decode cc pc = .ok (.putfield index, 3))
    (kk : ∀ (H1 : Heap) (locs1 : List Loc), Wd E A s ws' H1 locs1 → W p l e R s m args below meth c H1 locs1 cells slots Q (F0 m (pc + 3) ls rest)) : W p l e R s m args below meth c H locs cells slots Q (F0 m pc ls (v :: .ref a :: rest)) := by
  obtain ⟨hx, hb, hml, hown, hts, hK, hT, hN, hlk⟩ := X
  subst hw
  exact va_putN hx hb hts f.1 ty f.2.2.1 f.2.2.2.1 hown hK w.1 w.2.1 w.2.2 q0 he f.2.1 k hk (va_Nw.use rfl (hN _ hlink)) (by rw [f.2.2.2.2 k hk]; exact fun _ h => h) hfin (f.2.2.1 k hk) hn hfit hl hdg (fun H1 locs1 h1 h2 h3 => kk H1 locs1 ⟨h1, h2, h3⟩)
theorem r_iald (X : Cx p m meth c cc nL s args own E A) (w : Wd E A s ws H locs) (q0 : Nat) {n : Nat} {f : Nat → Int32} (ha : ws[q0]? = some (a, .inl (E.2.1.1, n, .inl f))) {i : Int32} (hin : vp_in i n) (hdg : decode cc pc = .ok (.iaload, 1))
    (kk : W p l e R s m args below meth c H locs cells slots Q (F0 m (pc + 1) ls (.int (f i.toNatClampNeg) :: rest))) : W p l e R s m args below meth c H locs cells slots Q (F0 m pc ls (.int i :: .ref a :: rest)) := by
  obtain ⟨hx, hb, hml, hown, hts, hK, hT, hN, hlk⟩ := X
  exact va_iald hx hb hK w.1 q0 0 ha rfl hin hdg kk
theorem r_cald (X : Cx p m meth c cc nL s args own E A) (w : Wd E A s ws H locs) (q0 : Nat) {n : Nat} {f : Nat → Int32} (ha : ws[q0]? = some (a, .inl (E.2.1.2.1, n, .inl f))) {i : Int32} (hin : vp_in i n) (hdg : decode cc pc = .ok (.caload, 1))
    (kk : W p l e R s m args below meth c H locs cells slots Q (F0 m (pc + 1) ls (.int (f i.toNatClampNeg) :: rest))) : W p l e R s m args below meth c H locs cells slots Q (F0 m pc ls (.int i :: .ref a :: rest)) := by
  obtain ⟨hx, hb, hml, hown, hts, hK, hT, hN, hlk⟩ := X
  exact va_cald hx hb hK w.1 q0 1 ha rfl hin hdg kk
theorem r_iast (X : Cx p m meth c cc nL s args own E A) (w : Wd E A s ws H locs) (ws' : va_W) (q0 : Nat) {n : Nat} {f : Nat → Int32} (ha : ws[q0]? = some (a, .inl (E.2.1.1, n, .inl f))) {i x : Int32} (hin : vp_in i n) (hw : ws.set q0 (a, .inl (E.2.1.1, n, .inl (upd f i.toNatClampNeg x))) = ws') (hdg : decode cc pc = .ok (.iastore, 1))
    (kk : ∀ (H1 : Heap) (locs1 : List Loc), Wd E A s ws' H1 locs1 → W p l e R s m args below meth c H1 locs1 cells slots Q (F0 m (pc + 1) ls rest)) : W p l e R s m args below meth c H locs cells slots Q (F0 m pc ls (.int x :: .int i :: .ref a :: rest)) := by
  obtain ⟨hx, hb, hml, hown, hts, hK, hT, hN, hlk⟩ := X
  subst hw
  exact va_iast hx hb hK w.1 w.2.1 w.2.2 q0 0 ha rfl hin hdg (fun H1 locs1 h1 h2 h3 => kk H1 locs1 ⟨h1, h2, h3⟩)
theorem r_alen (X : Cx p m meth c cc nL s args own E A) (w : Wd E A s ws H locs) (q0 : Nat) {n : Nat} {f : Nat → Int32} (ha : ws[q0]? = some (a, .inl (E.2.1.1, n, .inl f))) (hdg : decode cc pc = .ok (.arraylength, 1))
    (kk : W p l e R s m args below meth c H locs cells slots Q (F0 m (pc + 1) ls (.int (Int32.ofNat n) :: rest))) : W p l e R s m args below meth c H locs cells slots Q (F0 m pc ls (.ref a :: rest)) := by
  obtain ⟨hx, hb, hml, hown, hts, hK, hT, hN, hlk⟩ := X
  exact va_alen hx hb hK w.1 q0 0 ha rfl rfl hdg kk
theorem r_aldq (X : Cx p m meth c cc nL s args own E A) (w : Wd E A s ws H locs) (q0 : Nat) {n : Nat} {f : Nat → Option Nat} (ha : ws[q0]? = some (a, .inl (E.2.1.2.2, n, .inr (.inr (.inr (.inr f)))))) {i : Int32} (hin : vp_in i n) {v : Nat} (hv : f i.toNatClampNeg = some v) (hdg : decode cc pc = .ok (.aaload, 1))
    (kk : W p l e R s m args below meth c H locs cells slots Q (F0 m (pc + 1) ls (.ref v :: rest))) : W p l e R s m args below meth c H locs cells slots Q (F0 m pc ls (.int i :: .ref a :: rest)) := by
  obtain ⟨hx, hb, hml, hown, hts, hK, hT, hN, hlk⟩ := X
  exact va_aldq hx hb hK w.1 q0 2 ha rfl hin hdg (by rw [hv]; exact kk)
theorem r_gets (X : Cx p m meth c cc nL s args own E A) (w : Wd E A s ws H locs) (i : Nat) {index : Nat} {ref n : String} {L : List Int32} (hi : sL[i]? = some (ref, n, L)) (hlink : Cond.fieldLink own index ref n "[I" ∈ T0) (hdg : decode cc pc = .ok (.getstatic index, 3))
    (kk : W p l e R s m args below meth c H locs cells slots Q (F0 m (pc + 3) ls (.ref (E.2.2 i) :: rest))) : W p l e R s m args below meth c H locs cells slots Q (F0 m pc ls rest) := by
  obtain ⟨hx, hb, hml, hown, hts, hK, hT, hN, hlk⟩ := X
  exact va_gets hx hb (hT i _ hi).1 w.2.2 hown (hts _ hlink) (fun _ h => h) hdg kk
theorem r_getsN (X : Cx p m meth c cc nL s args own E A) (w : Wd E A s ws H locs) (i : Nat) {index : Nat} {ref n host : String} {L : List Int32} (hi : sL[i]? = some (ref, n, L)) (hlink : Cond.fieldLinkNest own index ref n "[I" host ∈ NL) (hdg : decode cc pc = .ok (.getstatic index, 3))
    (kk : W p l e R s m args below meth c H locs cells slots Q (F0 m (pc + 3) ls (.ref (E.2.2 i) :: rest))) : W p l e R s m args below meth c H locs cells slots Q (F0 m pc ls rest) := by
  obtain ⟨hx, hb, hml, hown, hts, hK, hT, hN, hlk⟩ := X
  exact va_getsN hx hb (hT i _ hi).1 w.2.2 hown (va_Nw.use rfl (hN _ hlink)) (fun _ h => h) hdg kk
theorem r_tald (X : Cx p m meth c cc nL s args own E A) (w : Wd E A s ws H locs) (i : Nat) {N : Nat} {ref n : String} {L : List Int32} (hi : sL[i]? = some (ref, n, L)) (hN0 : L.length = N) {j : Int32} (hin : vp_in j N) (hdg : decode cc pc = .ok (.iaload, 1))
    (kk : W p l e R s m args below meth c H locs cells slots Q (F0 m (pc + 1) ls (.int (sT i j.toNatClampNeg) :: rest))) : W p l e R s m args below meth c H locs cells slots Q (F0 m pc ls (.int j :: .ref (E.2.2 i) :: rest)) := by
  obtain ⟨hx, hb, hml, hown, hts, hK, hT, hN, hlk⟩ := X
  subst hN0
  exact va_ti hx hb (hT i _ hi).2 w.2.2 hin rfl hdg kk
theorem r_tlen (X : Cx p m meth c cc nL s args own E A) (w : Wd E A s ws H locs) (i : Nat) {ref n : String} {L : List Int32} (hi : sL[i]? = some (ref, n, L)) {v : Int32} (hv : Int32.ofNat L.length = v) (hdg : decode cc pc = .ok (.arraylength, 1))
    (kk : W p l e R s m args below meth c H locs cells slots Q (F0 m (pc + 1) ls (.int v :: rest))) : W p l e R s m args below meth c H locs cells slots Q (F0 m pc ls (.ref (E.2.2 i) :: rest)) := by
  obtain ⟨hx, hb, hml, hown, hts, hK, hT, hN, hlk⟩ := X
  exact va_tlen hx hb (hT i _ hi).2 w.2.2 hv hdg kk
/-- constants of the pool -/
theorem r_ldci (X : Cx p m meth c cc nL s args own E A) {index : Nat} {v : Int32} (h : Cond.constant own index v ∈ T0) (hdg : decode cc pc = .ok (.ldc index, 2)) (k : W p l e R s m args below meth c H locs cells slots Q (F0 m (pc + 2) ls (.int v :: rest))) : W p l e R s m args below meth c H locs cells slots Q (F0 m pc ls rest) := by
  obtain ⟨hx, hb, hml, hown, hts, hK, hT, hN, hlk⟩ := X
  exact lv_ldc hx hb hown (hts _ h) hdg k
theorem r_ldcf (X : Cx p m meth c cc nL s args own E A) {index : Nat} {v : UInt32} (h : Cond.constantFloat own index v ∈ T0) (hdg : decode cc pc = .ok (.ldc index, 2)) (k : W p l e R s m args below meth c H locs cells slots Q (F0 m (pc + 2) ls (.float v :: rest))) : W p l e R s m args below meth c H locs cells slots Q (F0 m pc ls rest) := by
  obtain ⟨hx, hb, hml, hown, hts, hK, hT, hN, hlk⟩ := X
  exact lv_ldcf hx hb hown (hts _ h) hdg k
theorem r_ldcl (X : Cx p m meth c cc nL s args own E A) {index : Nat} {v : Int64} (h : Cond.constantLong own index v ∈ T0) (hdg : decode cc pc = .ok (.ldc2_w index, 3)) (k : W p l e R s m args below meth c H locs cells slots Q (F0 m (pc + 3) ls (.long v :: rest))) : W p l e R s m args below meth c H locs cells slots Q (F0 m pc ls rest) := by
  obtain ⟨hx, hb, hml, hown, hts, hK, hT, hN, hlk⟩ := X
  exact lv_ldc2 hx hb hown (hts _ h) hdg k
end RW
/-! ends -/
section RE
variable {p : Program} {l : Launch} {e : Env} {R : Room} {s : State} {m : MethodId} {args : Array Value} {below : List Frame} {meth : Method} {c : Code} {H : Heap} {locs : List Loc}
variable {cc : ByteArray} {nL : Nat} {own : String} {E : Ev} {wc wc' : va_W} {pc : Nat} {ls : Array Slot}
theorem Wd.fr {A : Nat → Prop} {s : State} {ws : va_W} (w : Wd E A s ws H locs) : ∀ q ∈ locs, A q.base := w.2.2.2.2
theorem r_iret (X : Cx p m meth c cc nL s args own E (hB wc)) (w : Wd E (hB wc) s wc' H locs) (hr : meth.sig.returnType = some .int) {v r : Int32} (hv : v = r) (hdg : decode cc pc = .ok (.ireturn, 1)) : W p l e R s m args below meth c H locs 0 0 (MQ below (QI E wc r wc') args s 0 0 (hB wc)) (F0 m pc ls [.int v]) :=
  W.iret X.1 X.2.1 hr (fun t ht hW => ⟨⟨v, (), rfl, hv, by show va_P E.1 vwCl wc' t.heap; rw [ht]; exact w.1⟩, w.2.2.F ht⟩) w.fr hdg X.2.2.2.2.2.2.2.2
theorem r_zret (X : Cx p m meth c cc nL s args own E (hB wc)) (w : Wd E (hB wc) s wc' H locs) (hr : meth.sig.returnType = some .boolean) {v r : Int32} (hz : v = 0 ∨ v = 1) (hv : v = r) (hdg : decode cc pc = .ok (.ireturn, 1)) : W p l e R s m args below meth c H locs 0 0 (MQ below (QI E wc r wc') args s 0 0 (hB wc)) (F0 m pc ls [.int v]) :=
  W.zret X.1 X.2.1 hr (by rcases hz with rfl | rfl <;> rfl) (fun t ht hW => ⟨⟨v, (), rfl, hv, by show va_P E.1 vwCl wc' t.heap; rw [ht]; exact w.1⟩, w.2.2.F ht⟩) w.fr hdg X.2.2.2.2.2.2.2.2
theorem r_vret (X : Cx p m meth c cc nL s args own E (hB wc)) (w : Wd E (hB wc) s wc' H locs) (hr : meth.sig.returnType = none) (hdg : decode cc pc = .ok (.return_, 1)) : W p l e R s m args below meth c H locs 0 0 (MQ below (QV E wc wc') args s 0 0 (hB wc)) (F0 m pc ls []) :=
  W.vret X.1 X.2.1 hr (fun t ht hW => ⟨⟨(), rfl, trivial, by show va_P E.1 vwCl wc' t.heap; rw [ht]; exact w.1⟩, w.2.2.F ht⟩) w.fr hdg X.2.2.2.2.2.2.2.2
theorem r_fret (X : Cx p m meth c cc nL s args own E (hB wc)) (w : Wd E (hB wc) s wc' H locs) (hr : meth.sig.returnType = some .float) {v r : UInt32} (hv : v = r) (hdg : decode cc pc = .ok (.freturn, 1)) : W p l e R s m args below meth c H locs 0 0 (MQ below (QF E wc r wc') args s 0 0 (hB wc)) (F0 m pc ls [.float v]) :=
  W.fret X.1 X.2.1 hr (fun t ht hW => ⟨⟨v, (), rfl, hv, by show va_P E.1 vwCl wc' t.heap; rw [ht]; exact w.1⟩, w.2.2.F ht⟩) w.fr hdg X.2.2.2.2.2.2.2.2
end RE
/-! calls -/
section RC
variable {p : Program} {l : Launch} {e : Env} {R : Room} {s : State} {m : MethodId} {args : Array Value} {below : List Frame} {meth : Method} {c : Code} {H : Heap} {locs : List Loc} {cells slots : Nat} {Q : State → Prop}
variable {cc : ByteArray} {nL : Nat} {own : String} {E : Ev} {A : Nat → Prop} {ws : va_W} {pc : Nat} {ls : Array Slot} {rest st0 : List Value} {a : Nat}
variable {y : MethodName} {bytes : ByteArray} {maxL : Nat} {ret : Option FieldType} {fr lo : Nat} {wc wc' : va_W} {As : List Value} {index n : Nat} {C : String}
/-- a callee, as a caller names it: virtual, static -/
def CkV (own : String) (index : Nat) (C : String) (y : MethodName) (bytes : ByteArray) (maxL : Nat) (ret : Option FieldType) (n : Nat) : Prop := Cond.methodLink own index y ∈ T0 ∧ Cond.instanceMethod y ∈ T0 ∧ Cond.selects C y y ∈ T0 ∧ Cond.initialized C ∈ T0 ∧ Cond.code y bytes maxL ret ∈ T0 ∧ (y.cls = C ∧ y.cls ≠ "java/lang/invoke/MethodHandle" ∧ y.cls ≠ "java/lang/invoke/VarHandle" ∧ (parseMethodDescriptor y.desc).map (fun d => d.parameters.length) = some n)
def CkS (own : String) (index : Nat) (y : MethodName) (bytes : ByteArray) (maxL : Nat) (ret : Option FieldType) (n : Nat) : Prop := Cond.methodLink own index y ∈ T0 ∧ Cond.static y ∈ T0 ∧ Cond.initialized y.cls ∈ T0 ∧ Cond.code y bytes maxL ret ∈ T0 ∧ (y.cls ≠ "java/lang/invoke/MethodHandle" ∧ y.cls ≠ "java/lang/invoke/VarHandle" ∧ (parseMethodDescriptor y.desc).map (fun d => d.parameters.length) = some n)
theorem CkV.good (h : CkV own index C y bytes maxL ret n) : GoodIn T0 (wsV own index C y (.code y bytes maxL ret :: T0)) := by
  obtain ⟨h1, h2, h3, h4, h5, -⟩ := h
  intro w hw
  have hm : w ∈ T0 := by
    unfold wsV at hw
    rcases List.mem_append.mp hw with hw | hw
    · simp only [List.mem_cons, List.not_mem_nil, or_false] at hw
      rcases hw with rfl | rfl | rfl | rfl <;> assumption
    · rcases List.mem_cons.mp hw with rfl | hw
      · exact h5
      · exact hw
  exact ⟨hm, good_of_word (T0_good w hm)⟩
theorem CkS.good (h : CkS own index y bytes maxL ret n) : GoodIn T0 (va_wsS own index y (.code y bytes maxL ret :: T0)) := by
  obtain ⟨h1, h2, h3, h5, -⟩ := h
  intro w hw
  have hm : w ∈ T0 := by
    unfold va_wsS at hw
    rcases List.mem_append.mp hw with hw | hw
    · simp only [List.mem_cons, List.not_mem_nil, or_false] at hw
      rcases hw with rfl | rfl | rfl <;> assumption
    · rcases List.mem_cons.mp hw with rfl | hw
      · exact h5
      · exact hw
  exact ⟨hm, good_of_word (T0_good w hm)⟩
theorem Wd.pre (X : Cx p m meth c cc nL s args own E A) (w : Wd E A s ws H locs) (is : List Nat) (hC : is.map (fun i => ws[i]?) = wc.map some) (hn : va_nd is = true) (U : State) (hU : U.heap = H) (hW : s.WarmedH U.vm) : Pre E wc U := by
  obtain ⟨h1, h2, h3⟩ := w.sub is hC hn
  obtain ⟨hx, hb, hml, hown, hts, hK, hT, hN, hlk⟩ := X
  exact ⟨by rw [hU]; exact h1, va_K.moved hW.alike hK, h2.weaken (fun _ _ _ _ => trivial), Stt.pass hT w.2.2 h3 hU hW.alike, hN.warm hW⟩
theorem r_runV {Qc : Array Value → State → Outcome → State → Prop} (X : Cx p m meth c cc nL s args own E A) (w : Wd E A s ws H locs) {b : Nat} (hM : KQ l y bytes maxL ret fr lo E (.ref b :: As) wc Qc) (ck : CkV own index C y bytes maxL ret As.length) (hR : fr + 1 ≤ R.frames ∧ 8 + (maxL + 11) + lo ≤ R.locals) (is : List Nat) (hC : is.map (fun i => ws[i]?) = wc.map some) (hn : va_nd is = true) {k0 ci N : Nat} {T : u_T} {ty : Nat → FieldType} {fs : List Value} (f : CL ci C T N ty) (hrec : wc[k0]? = some (b, .inr (ci, fs))) (hsz : ls.size = nL) (hst : (rest.map fun v => v.category).sum ≤ 8) (hstack : st0 = As.reverse ++ .ref b :: rest) (hdg : decode cc pc = .ok (.invokevirtual index, 3)) (hcs : cells ≤ R.cells ∧ slots ≤ R.slots) :
    va_Run p l e R s m args below meth c H locs cells slots 0 0 (F0 m pc ls st0) rest (Qc (Value.ref b :: As).toArray) (hB wc) := by
  obtain ⟨h1, h2, h3⟩ := w.sub is hC hn
  exact va_runV ⟨X.1, X.2.1, X.2.2.1, X.2.2.2.1, X.2.2.2.2.1⟩ hM (cwV As.length X.2.2.2.2.1 ck.good rfl rfl rfl ck.2.2.2.2.2 hR) ⟨Pre.blind _ _ _, va_recv X.2.2.2.2.2.1 h1 f.2.1 hrec, fun U hU hW => ⟨rfl, w.pre X is hC hn U hU hW⟩⟩ rfl rfl hsz hstack (lv_room hst) hdg hcs
theorem r_runS {Qc : Array Value → State → Outcome → State → Prop} (X : Cx p m meth c cc nL s args own E A) (w : Wd E A s ws H locs) (hM : KQ l y bytes maxL ret fr lo E As wc Qc) (ck : CkS own index y bytes maxL ret As.length) (hR : fr + 1 ≤ R.frames ∧ 8 + (maxL + 11) + lo ≤ R.locals) (is : List Nat) (hC : is.map (fun i => ws[i]?) = wc.map some) (hn : va_nd is = true) (hsz : ls.size = nL) (hst : (rest.map fun v => v.category).sum ≤ 8) (hstack : st0 = As.reverse ++ rest) (hdg : decode cc pc = .ok (.invokestatic index, 3)) (hcs : cells ≤ R.cells ∧ slots ≤ R.slots) :
    va_Run p l e R s m args below meth c H locs cells slots 0 0 (F0 m pc ls st0) rest (Qc As.toArray) (hB wc) :=
  va_runS ⟨X.1, X.2.1, X.2.2.1, X.2.2.2.1, X.2.2.2.2.1⟩ hM (va_cwS As.length X.2.2.2.2.1 ck.good rfl rfl rfl ck.2.2.2.2 hR) ⟨Pre.blind _ _ _, fun U hU hW => ⟨rfl, w.pre X is hC hn U hU hW⟩⟩ rfl rfl hsz hstack (lv_room hst) hdg hcs
theorem r_ci {r : Int32} {av : Array Value} (w : Wd E A s ws H locs) (hr : va_Run p l e R s m args below meth c H locs cells slots 0 0 (F0 m pc ls st0) rest (QI E wc r wc' av) (hB wc)) (ws' : va_W) (is : List Nat) (hC : is.map (fun i => ws[i]?) = wc.map some) (hn : va_nd is = true) (ha : wc'.map Prod.fst = wc.map Prod.fst) (hw : wput ws is wc' = ws')
    (kk : ∀ (H1 : Heap) (locs1 : List Loc), Wd E A s ws' H1 locs1 → W p l e R s m args below meth c H1 locs1 cells slots Q (F0 m (pc + 3) ls (.int r :: rest))) : W p l e R s m args below meth c H locs cells slots Q (F0 m pc ls st0) := by
  subst hw
  have hf := (w.sub is hC hn).2.2
  exact va_calli hr w.2.2 (fun q _ h => hf q h) hf (fun x u t H1 locs1 ht hvm hx hB hz hk hS => by
    subst hx
    exact kk H1 locs1 (w.call is hC ha hk (by rw [← ht]; exact hB) hS))
theorem r_cv {av : Array Value} (w : Wd E A s ws H locs) (hr : va_Run p l e R s m args below meth c H locs cells slots 0 0 (F0 m pc ls st0) rest (QV E wc wc' av) (hB wc)) (ws' : va_W) (is : List Nat) (hC : is.map (fun i => ws[i]?) = wc.map some) (hn : va_nd is = true) (ha : wc'.map Prod.fst = wc.map Prod.fst) (hw : wput ws is wc' = ws')
    (kk : ∀ (H1 : Heap) (locs1 : List Loc), Wd E A s ws' H1 locs1 → W p l e R s m args below meth c H1 locs1 cells slots Q (F0 m (pc + 3) ls rest)) : W p l e R s m args below meth c H locs cells slots Q (F0 m pc ls st0) := by
  subst hw
  have hf := (w.sub is hC hn).2.2
  exact va_callv hr w.2.2 (fun q _ h => hf q h) hf (fun u t H1 locs1 ht hvm hx hB hz hk hS => kk H1 locs1 (w.call is hC ha hk (by rw [← ht]; exact hB) hS))
theorem r_cf {r : UInt32} {av : Array Value} (w : Wd E A s ws H locs) (hr : va_Run p l e R s m args below meth c H locs cells slots 0 0 (F0 m pc ls st0) rest (QF E wc r wc' av) (hB wc)) (ws' : va_W) (is : List Nat) (hC : is.map (fun i => ws[i]?) = wc.map some) (hn : va_nd is = true) (ha : wc'.map Prod.fst = wc.map Prod.fst) (hw : wput ws is wc' = ws')
    (kk : ∀ (H1 : Heap) (locs1 : List Loc), Wd E A s ws' H1 locs1 → W p l e R s m args below meth c H1 locs1 cells slots Q (F0 m (pc + 3) ls (.float r :: rest))) : W p l e R s m args below meth c H locs cells slots Q (F0 m pc ls st0) := by
  subst hw
  have hf := (w.sub is hC hn).2.2
  exact va_callf hr w.2.2 (fun q _ h => hf q h) hf (fun x u t H1 locs1 ht hvm hx hB hz hk hS => by
    subst hx
    exact kk H1 locs1 (w.call is hC ha hk (by rw [← ht]; exact hB) hS))
end RC
