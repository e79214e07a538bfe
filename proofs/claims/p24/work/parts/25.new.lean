/-! constructors: contracts that make cells, and rows for new objects (wip/whole/gen/pre25.lean) -/
section RN
variable {p : Program} {l : Launch} {e : Env} {R : Room} {s : State} {m : MethodId} {args : Array Value} {below : List Frame} {meth : Method} {c : Code} {H : Heap} {locs : List Loc} {cells slots : Nat} {Q : State → Prop}
variable {cc : ByteArray} {nL : Nat} {own : String} {E : Ev} {A : Nat → Prop} {ws : va_W} {pc : Nat} {ls : Array Slot} {rest : List Value} {a : Nat}
variable {y : MethodName} {bytes : ByteArray} {maxL : Nat} {fr lo ce sl : Nat} {wc : va_W} {index : Nat}
/-- a constructor's end: its cells and the fresh ones are a world with K -/
def QN (E : Ev) (wc : va_W) (sz : Nat) (K : va_W → Prop) : Array Value → State → Outcome → State → Prop := va_Qv (fun (_ : Unit) => True) (fun _ t => ∃ w' : va_W, K w' ∧ va_P E.1 vwCl w' t.heap ∧ va_D (va_A wc sz) w') (va_A wc sz)
def PreN (E : Ev) (wc : va_W) (sz : Nat) (U : State) : Prop := U.heap.size = sz ∧ Pre E wc U ∧ va_AO RX4 U
theorem PreN.blind (av : List Value) (E : Ev) (wc : va_W) (sz : Nat) : FrameBlind (va_Pc av (PreN E wc sz)) := fun a U g mk h => by
  have h2 := Pre.blind av E wc a U g mk ⟨h.1, h.2.2.1⟩
  exact ⟨h2.1, h.2.1, h2.2, va_AO.moved (u := U) (U := U.calling g mk a) (Vm.Alike.refl U.vm) h.2.2.2⟩
def KN (l : Launch) (y : MethodName) (bytes : ByteArray) (maxL : Nat) (fr lo ce sl : Nat) (E : Ev) (av : List Value) (wc : va_W) (K : va_W → Prop) : Prop :=
  ∀ sz : Nat, Met l y (.code y bytes maxL none :: T0) { frames := fr, cells := ce, slots := sl, locals := lo } (va_Pc av (PreN E wc sz)) (QN E wc sz K) ce sl (va_A wc sz)
theorem Stt.grow {E : Ev} {wc : va_W} {U : State} {H : Heap} (h : Stt E (hB wc) U H) : Stt E (va_A wc H.size) U H := by
  intro i q hq
  obtain ⟨⟨cf, kf, fi, f, a, cell, h1, h2, h3, h4, h5, h6, h7, h8⟩, ⟨cl, g1, g2, g3, g4, g5, g6, g7⟩⟩ := h i q hq
  have lt : ∀ {a : Nat} {c : Cell}, H[a]? = some c → a < H.size := fun h => (Array.getElem?_eq_some_iff.mp h).1
  refine ⟨⟨cf, kf, fi, f, a, cell, h1, h2, h3, h4, h5, h6, h7, ?_⟩, ⟨cl, g1, g2, g3, g4, g5, g6, ?_⟩⟩
  · rintro (⟨k, e, hk⟩ | hk)
    · exact h8 ⟨k, e, hk⟩
    · exact absurd (lt h5) (by omega)
  · rintro (⟨k, e, hk⟩ | hk)
    · exact g7 ⟨k, e, hk⟩
    · exact absurd (lt g1) (by omega)
theorem KN.mk {av : List Value} {K : va_W → Prop} (own : String) (hown : y.cls = own) (hy : plainFor y = true) (hlen : (lg_sl av).length ≤ maxL)
    (body : ∀ (p : Program) (e : Env) (s : State) (m : MethodId) (below : List Frame) (meth : Method) (c : Code) (ls : Array Slot), Cx p m meth c bytes maxL s av.toArray own E (va_A wc s.heap.size) → meth.name = y.name → va_AO RX4 s → meth.sig.returnType = none → Wd E (va_A wc s.heap.size) s wc s.heap [] → lv_has ls maxL (lv_args 0 av) →
      W p l e { frames := fr, cells := ce, slots := sl, locals := lo } s m av.toArray below meth c s.heap [] 0 0 (MQ below (QN E wc s.heap.size K) av.toArray s ce sl (va_A wc s.heap.size)) (F0 m 0 ls [])) : KN l y bytes maxL fr lo ce sl E av wc K := by
  intro sz
  refine metW (cc := bytes) (maxL := maxL) (ret := none) hy rfl ?_
  intro p e s m args below meth c s₁ B hml hv
  obtain ⟨rfl, rfl, ⟨hP, hK, hD0, hT, hN⟩, hAO⟩ := hv
  have hts := atoms_spec (ws := .code y bytes maxL none :: T0) B.pre
  have hf := findClass_of_methodNamed B.named
  rw [hown] at hf
  rw [lg_entry_eq]
  exact body p e s m below meth c _ ⟨B.exec, B.bytes, hml, hf, fun w hw => hts w (List.mem_cons_of_mem _ hw), hK, hT.grow, hN, B.notSynchronized⟩ (name_of_methodNamed B.named B.method).1 hAO B.returns ⟨hP, hD0.self, va_S.rf⟩ (lv_entry av hlen)
theorem r_nret {K : va_W → Prop} {w' : va_W} (X : Cx p m meth c cc nL s args own E (va_A wc s.heap.size)) (w : Wd E (va_A wc s.heap.size) s w' H locs) (hr : meth.sig.returnType = none) (hK : K w') (h1 : cells ≤ ce) (h2 : slots ≤ sl) (hdg : decode cc pc = .ok (.return_, 1)) : W p l e R s m args below meth c H locs cells slots (MQ below (QN E wc s.heap.size K) args s ce sl (va_A wc s.heap.size)) (F0 m pc ls []) := by
  refine W.widen (k := ce) (n := sl) h1 h2 ?_
  exact W.vret X.1 X.2.1 hr (fun t ht hW => ⟨⟨(), rfl, trivial, w', hK, by rw [ht]; exact w.1, w.2.1⟩, w.2.2.F ht⟩) w.2.2.2.2 hdg X.2.2.2.2.2.2.2.2
/-- Object.<init> -/
theorem r_obj (X : Cx p m meth c cc nL s args own E A) (hlink : Cond.methodLink own index objectInit ∈ T0) (hsz : ls.size = nL) (hdg : decode cc pc = .ok (.invokespecial index, 3)) (hfr : 1 ≤ R.frames) (hlo : 20 ≤ R.locals)
    (kk : W p l e R s m args below meth c H locs cells slots Q (F0 m (pc + 3) ls [])) : W p l e R s m args below meth c H locs cells slots Q (F0 m pc ls [.ref a]) := by
  refine W.objInit X.1 X.2.1 X.2.2.2.1 (X.2.2.2.2.1 _ hlink) (X.2.2.2.2.1 _ wim_objectInit) (X.2.2.2.2.1 _ wc_objectInit) rfl (hsz.trans X.2.2.1.symm) rfl hdg hfr (by show 2 * 0 + 0 + 12 ≤ _; omega) ?_
  exact W.eq (g2 := F0 m (pc + 3) ls []) rfl kk
theorem r_newa (X : Cx p m meth c cc nL s args own E A) (w : Wd E A s ws H locs) (hA : ∀ q, s.heap.size ≤ q → A q) {n : Int32} {N : Nat} (hn : ¬ n < 0) (hN : n.toNatClampNeg = N) (hby : N * 4 ≤ 536870912) (hc : cells + 1 ≤ R.cells) (hs : slots + N ≤ R.slots) (hdg : decode cc pc = .ok (.newarray .int, 2))
    (kk : ∀ (q : Nat) (H1 : Heap), Wd E A s (ws ++ [(q, .inl (E.2.1.1, N, .inl (fun _ => 0)))]) H1 locs → W p l e R s m args below meth c H1 locs (cells + 1) (slots + N) Q (F0 m (pc + 2) ls (.ref q :: rest))) : W p l e R s m args below meth c H locs cells slots Q (F0 m pc ls (.int n :: rest)) := by
  obtain ⟨hx, hb, hml, hown, hts, hK, hT, hN9, hlk⟩ := X
  refine va_newa (atype := .int) (ty := .int) (a0 := (N, .inl (fun _ => 0))) hx hb (hts _ wac_int) rfl hK w.1 w.2.1 w.2.2 hA (fun cA => rfl) hn hN hby hc hs hdg (fun q cA H1 hK1 h1 h2 h3 => ?_)
  have e1 : s.vm.findClass "[I" = some cA := va_nm_int (hK1.2 3 (cA, .int) rfl).2
  have e2 : s.vm.findClass "[I" = some E.2.1.1 := va_nm_int (hK.2 0 (E.2.1.1, .int) rfl).2
  have e3 : cA = E.2.1.1 := Option.some.inj (e1.symm.trans e2)
  subst e3
  exact kk q H1 ⟨h1, h2, h3⟩
theorem r_newc (X : Cx p m meth c cc nL s args own E A) (w : Wd E A s ws H locs) (hA : ∀ q, s.heap.size ≤ q → A q) {n : Int32} {N : Nat} (hn : ¬ n < 0) (hN : n.toNatClampNeg = N) (hby : N * 2 ≤ 536870912) (hc : cells + 1 ≤ R.cells) (hs : slots + N ≤ R.slots) (hdg : decode cc pc = .ok (.newarray .char, 2))
    (kk : ∀ (q : Nat) (H1 : Heap), Wd E A s (ws ++ [(q, .inl (E.2.1.2.1, N, .inl (fun _ => 0)))]) H1 locs → W p l e R s m args below meth c H1 locs (cells + 1) (slots + N) Q (F0 m (pc + 2) ls (.ref q :: rest))) : W p l e R s m args below meth c H locs cells slots Q (F0 m pc ls (.int n :: rest)) := by
  obtain ⟨hx, hb, hml, hown, hts, hK, hT, hN9, hlk⟩ := X
  refine va_newa (atype := .char) (ty := .char) (a0 := (N, .inl (fun _ => 0))) hx hb (hts _ wac_char) rfl hK w.1 w.2.1 w.2.2 hA (fun cA => rfl) hn hN hby hc hs hdg (fun q cA H1 hK1 h1 h2 h3 => ?_)
  have e1 : s.vm.findClass ("[" ++ FieldType.char.toString) = some cA := (hK1.2 3 (cA, .char) rfl).2
  have e2 : s.vm.findClass ("[" ++ FieldType.char.toString) = some E.2.1.2.1 := (hK.2 1 (E.2.1.2.1, .char) rfl).2
  have e3 : cA = E.2.1.2.1 := Option.some.inj (e1.symm.trans e2)
  subst e3
  exact kk q H1 ⟨h1, h2, h3⟩
theorem r_newq (X : Cx p m meth c cc nL s args own E A) (w : Wd E A s ws H locs) (hA : ∀ q, s.heap.size ≤ q → A q) (hAO : va_AO RX4 s) (hcl : Cond.classLink own index RX4 ∈ T0) {n : Int32} {N : Nat} (hn : ¬ n < 0) (hN : n.toNatClampNeg = N) (hby : N * 4 ≤ 536870912) (hc : cells + 1 ≤ R.cells) (hs : slots + N ≤ R.slots) (hdg : decode cc pc = .ok (.anewarray index, 3))
    (kk : ∀ (q : Nat) (H1 : Heap), Wd E A s (ws ++ [(q, .inl (E.2.1.2.2, N, .inr (.inr (.inr (.inr (fun _ => none))))))]) H1 locs → W p l e R s m args below meth c H1 locs (cells + 1) (slots + N) Q (F0 m (pc + 3) ls (.ref q :: rest))) : W p l e R s m args below meth c H locs cells slots Q (F0 m pc ls (.int n :: rest)) := by
  obtain ⟨hx, hb, hml, hown, hts, hK, hT, hN9, hlk⟩ := X
  refine va_newq hx hb hown (hts _ hcl) hAO hK w.1 w.2.1 w.2.2 hA hn hN hby hc hs hdg (fun q cA H1 hK1 h1 h2 h3 => ?_)
  obtain ⟨-, -, -, -, -, e1⟩ := (hK1.2 3 (cA, .object RX4) rfl).2
  obtain ⟨-, -, -, -, -, e2⟩ := (hK.2 2 (E.2.1.2.2, .object RX4) rfl).2
  have e3 : cA = E.2.1.2.2 := Option.some.inj (e1.symm.trans e2)
  subst e3
  exact kk q H1 ⟨h1, h2, h3⟩
theorem r_putF (X : Cx p m meth c cc nL s args own E A) (w : Wd E A s ws H locs) (ws' : va_W) {ci N : Nat} {C : String} {T : u_T} {ty : Nat → FieldType} (f : CL ci C T N ty) (k : Nat) (hk : k < N) (hlink : Cond.fieldLink own index C (T k).2.1 (T k).2.2.1 ∈ T0) (q0 : Nat) {fs : List Value} (he : ws[q0]? = some (a, .inr (ci, fs))) {v : Value} (hfin : (T k).2.2.2 = true) (hin : meth.name = "<init>") (hdecl : C = own) (hn : narrow (ty k) v = v) (hfit : fits (ty k) v = true) (hl : k < fs.length) (hw : ws.set q0 (a, .inr (ci, fs.set k v)) = ws') (hdg : decode cc pc = .ok (.putfield index, 3))
    (kk : ∀ (H1 : Heap) (locs1 : List Loc), Wd E A s ws' H1 locs1 → W p l e R s m args below meth c H1 locs1 cells slots Q (F0 m (pc + 3) ls rest)) : W p l e R s m args below meth c H locs cells slots Q (F0 m pc ls (v :: .ref a :: rest)) := by
  obtain ⟨hx, hb, hml, hown, hts, hK, hT, hN, hlk⟩ := X
  subst hw
  exact va_putF hx hb hts f.1 ty f.2.2.1 f.2.2.2.1 hown hK w.1 w.2.1 w.2.2 q0 he f.2.1 k hk (hts _ hlink) (by rw [f.2.2.2.2 k hk]; exact fun _ h => h) hfin hin (by rw [f.2.2.2.2 k hk]; exact hdecl) (f.2.2.1 k hk) hn hfit hl hdg (fun H1 locs1 h1 h2 h3 => kk H1 locs1 ⟨h1, h2, h3⟩)
/-- what came back from a constructor, beside the rest -/
theorem Wd.mk2 {w' : va_W} {H1 : Heap} {locs1 : List Loc} (w : Wd E A s (ws ++ wc) H locs) (hA : ∀ q, s.heap.size ≤ q → A q) (hk : ∀ q : Nat, q < H.size → ¬ va_A wc H.size q → H1[q]? = H[q]?) (hP1 : va_P E.1 vwCl w' H1) (hD1 : va_D (va_A wc H.size) w') (hS1 : va_S A s.heap H1 locs1) : Wd E A s (ws ++ w') H1 locs1 := by
  obtain ⟨hP, hD, hS⟩ := w
  have left : ∀ (k : Nat) (q : Nat × va_E), ws[k]? = some q → k < ws.length ∧ (ws ++ wc)[k]? = some q := fun k q h => by
    have hl := (List.getElem?_eq_some_iff.mp h).1
    exact ⟨hl, by rw [List.getElem?_append_left hl]; exact h⟩
  have free : ∀ q, va_A wc H.size q → A q := by
    rintro q (⟨k, e, h⟩ | h)
    · exact hD.2 (ws.length + k) (q, e) (by rw [List.getElem?_append_right (by omega), Nat.add_sub_cancel_left]; exact h)
    · exact hA q (Nat.le_trans hS.1 h)
  have apart : ∀ (k : Nat) (q : Nat × va_E), ws[k]? = some q → ¬ va_A wc H.size q.1 := by
    rintro k q h (⟨j, e, h2⟩ | h2)
    · have h3 := hD.1 k (ws.length + j) q (q.1, e) (left k q h).2 (by rw [List.getElem?_append_right (by omega), Nat.add_sub_cancel_left]; exact h2) rfl
      have := (left k q h).1
      omega
    · exact absurd (hP k q (left k q h).2).lt (by omega)
  refine ⟨va_P.app (fun k q h => ?_) hP1, va_D.app ⟨fun i j x z hi hj h => hD.1 i j x z (left i x hi).2 (left j z hj).2 h, fun k q h => hD.2 k q (left k q h).2⟩ (hD1.weaken (fun k q _ h => free q.1 h)) (fun i j x z hx hz hxz => ?_), hS1⟩
  · exact (hP k q (left k q h).2).kept (hk q.1 (hP k q (left k q h).2).lt (apart k q h))
  · exact apart i x hx (by rw [hxz]; exact hD1.2 j z hz)
def CkI (own : String) (index : Nat) (y : MethodName) (bytes : ByteArray) (maxL : Nat) (n : Nat) : Prop := Cond.methodLink own index y ∈ T0 ∧ Cond.instanceMethod y ∈ T0 ∧ Cond.initialized y.cls ∈ T0 ∧ Cond.code y bytes maxL none ∈ T0 ∧ (y.name = "<init>" ∧ y.cls ≠ "java/lang/invoke/MethodHandle" ∧ y.cls ≠ "java/lang/invoke/VarHandle" ∧ (parseMethodDescriptor y.desc).map (fun d => d.parameters.length) = some n)
def CkIN (own : String) (index : Nat) (y : MethodName) (bytes : ByteArray) (maxL : Nat) (n : Nat) : Prop := Cond.methodLinkNest own index y RX6 ∈ NL ∧ Cond.instanceMethod y ∈ T0 ∧ Cond.initialized y.cls ∈ T0 ∧ Cond.code y bytes maxL none ∈ T0 ∧ (y.name = "<init>" ∧ y.cls ≠ "java/lang/invoke/MethodHandle" ∧ y.cls ≠ "java/lang/invoke/VarHandle" ∧ (parseMethodDescriptor y.desc).map (fun d => d.parameters.length) = some n)
theorem Wd.preN (X : Cx p m meth c cc nL s args own E A) (hAO : va_AO RX4 s) (w : Wd E A s ws H locs) (is : List Nat) (hC : is.map (fun i => ws[i]?) = wc.map some) (hn : va_nd is = true) (U : State) (hU : U.heap = H) (hW : s.WarmedH U.vm) : PreN E wc H.size U := ⟨by rw [hU], w.pre X is hC hn U hU hW, hAO.moved hW.alike⟩
theorem r_runI {b : Nat} {K : va_W → Prop} (X : Cx p m meth c cc nL s args own E A) (hAO : va_AO RX4 s) (w : Wd E A s ws H locs) (hM : KN l y bytes maxL fr lo ce sl E [.ref b] wc K) (ck : CkI own index y bytes maxL 0) (hR : fr + 1 ≤ R.frames ∧ 8 + (maxL + 11) + lo ≤ R.locals) (is : List Nat) (hC : is.map (fun i => ws[i]?) = wc.map some) (hn : va_nd is = true) (hsz : ls.size = nL) (hst : (rest.map fun v => v.category).sum ≤ 8) (hdg : decode cc pc = .ok (.invokespecial index, 3)) (hcs : cells + ce ≤ R.cells ∧ slots + sl ≤ R.slots) :
    va_Run p l e R s m args below meth c H locs cells slots ce sl (F0 m pc ls (.ref b :: rest)) rest (QN E wc H.size K #[.ref b]) (va_A wc H.size) := by
  have hts := X.2.2.2.2.1
  exact va_runI (As := []) ⟨X.1, X.2.1, X.2.2.1, X.2.2.2.1, hts⟩ (hM H.size) (cwI 0 hts (code_good ck.2.2.2.1) rfl rfl rfl (hts _ ck.2.2.1) (hts _ ck.1) (hts _ ck.2.1) ck.2.2.2.2.1 ck.2.2.2.2.2 hR) ⟨PreN.blind _ _ _ _, fun U hU hW => ⟨rfl, w.preN X hAO is hC hn U hU hW⟩⟩ rfl rfl hsz rfl (lv_room hst) hdg hcs
theorem r_runIN {b : Nat} {K : va_W → Prop} (X : Cx p m meth c cc nL s args own E A) (hAO : va_AO RX4 s) (w : Wd E A s ws H locs) (hM : KN l y bytes maxL fr lo ce sl E [.ref b] wc K) (ck : CkIN own index y bytes maxL 0) (hR : fr + 1 ≤ R.frames ∧ 8 + (maxL + 11) + lo ≤ R.locals) (is : List Nat) (hC : is.map (fun i => ws[i]?) = wc.map some) (hn : va_nd is = true) (hsz : ls.size = nL) (hst : (rest.map fun v => v.category).sum ≤ 8) (hdg : decode cc pc = .ok (.invokespecial index, 3)) (hcs : cells + ce ≤ R.cells ∧ slots + sl ≤ R.slots) :
    va_Run p l e R s m args below meth c H locs cells slots ce sl (F0 m pc ls (.ref b :: rest)) rest (QN E wc H.size K #[.ref b]) (va_A wc H.size) := by
  have hts := X.2.2.2.2.1
  have hN := X.2.2.2.2.2.2.2.1
  exact va_runIN (As := []) ⟨X.1, X.2.1, X.2.2.1, X.2.2.2.1, hts⟩ (hM H.size) ⟨va_cnB 0 hts (code_good ck.2.2.2.1) rfl rfl rfl (hN _ ck.1) (hts _ ck.2.2.1) ck.2.2.2.2.2 hR, ck.2.2.2.2.1, hts _ ck.2.1⟩ ⟨PreN.blind _ _ _ _, fun U hU hW => ⟨rfl, w.preN X hAO is hC hn U hU hW⟩⟩ rfl rfl hsz rfl (lv_room hst) hdg hcs
theorem last_at {ws : va_W} {x : Nat × va_E} : [ws.length].map (fun i => (ws ++ [x])[i]?) = [x].map some := by simp
/-- new, dup, <init>: the object's cells stand behind the world -/
theorem r_mk0 {C : String} {T : u_T} {ty : Nat → FieldType} {ci N : Nat} {fs : List Value} {K : Nat → va_W → Prop} (X : Cx p m meth c cc nL s args own E A) (w : Wd E A s ws H locs) (hA : ∀ q, s.heap.size ≤ q → A q) (f : CL ci C T N ty) (hcl : Cond.classLink own index C ∈ T0) (hinst : Cond.instantiable C N ∈ T0) (hini : Cond.initialized C ∈ T0) (hfs : ∀ j, j < N → defaultValue (ty j) = vp_V fs j) (hdn : decode cc pc = .ok (.new index, 3)) (hdd : decode cc (pc + 3) = .ok (.dup, 1)) (hc : cells + 1 + ce ≤ R.cells) (hs : slots + N + sl ≤ R.slots)
    (hrun : ∀ (q : Nat) (H1 : Heap), Wd E A s (ws ++ [(q, .inr (ci, fs))]) H1 locs → va_Run p l e R s m args below meth c H1 locs (cells + 1) (slots + N) ce sl (F0 m (pc + 4) ls (.ref q :: .ref q :: rest)) (.ref q :: rest) (QN E [(q, .inr (ci, fs))] H1.size (K q) #[.ref q]) (va_A [(q, .inr (ci, fs))] H1.size))
    (kk : ∀ (q : Nat) (w' : va_W) (H1 : Heap) (locs1 : List Loc), K q w' → Wd E A s (ws ++ w') H1 locs1 → W p l e R s m args below meth c H1 locs1 (cells + 1 + ce) (slots + N + sl) Q (F0 m (pc + 7) ls (.ref q :: rest))) : W p l e R s m args below meth c H locs cells slots Q (F0 m pc ls rest) := by
  obtain ⟨hx, hb, hml, hown, hts, hK, hT, hN9, hlk⟩ := X
  refine va_new (ci := ci) (fs := fs) (C := C) (T := T) (N := N) hx hb hts f.1 ty f.2.2.1 hown (hts _ hcl) (hts _ hinst) (hts _ hini) hK w.1 w.2.1 w.2.2 hA f.2.1 hfs (by omega) (by omega) hdn (fun q H1 h1 h2 h3 => ?_)
  refine lv_dup hx hb hdd rfl ?_
  have w1 : Wd E A s (ws ++ [(q, .inr (ci, fs))]) H1 locs := ⟨h1, h2, h3⟩
  have hfree := va_free h2 h3 hA [ws.length] (last_at (ws := ws) (x := (q, .inr (ci, fs))))
  refine va_callv (hrun q H1 w1) h3 (fun q _ h => hfree q h) hfree (fun u t H2 locs1 ht hvm hx9 hB hz hk hS => ?_)
  obtain ⟨w', hKw, hP1, hD1⟩ := hB
  rw [ht] at hP1
  exact kk q w' H2 locs1 hKw (w1.mk2 hA hk hP1 hD1 hS)
end RN

