/-! THE BASE: one environment for all methods, a walk's standing facts in two words (Cx, Wd), contracts that are functions (KI, KV, KF), rows over them -/
/-- classes' places, the array classes (int, char, State), the addresses of the static arrays -/
abbrev Ev : Type := va_G × (ClassId × ClassId × ClassId) × (Nat → Nat)
def tyL (E : Ev) : List (ClassId × FieldType) := [(E.2.1.1, .int), (E.2.1.2.1, .char), (E.2.1.2.2, .object RX4)]
/-- the cells of a world -/
def hB (ws : va_W) : Nat → Prop := fun q => ∃ (k : Nat) (e : va_E), ws[k]? = some (q, e)
/-- the static arrays -/
def sL : List (String × String × List Int32) := [("HexBilliards", "LOWEST_SETTING", [50, 50, 50]), ("HexBilliards", "HIGHEST_SETTING", [99, 100, 99]), ("HexBilliards", "FIRST_SETTING", [90, 80, 70]), ("HexBilliards$Felt", "STEP_Q", [1, 1, 0, -1, -1, 0]), ("HexBilliards$Felt", "STEP_R", [0, -1, -1, 0, 1, 1]), ("HexBilliards$Felt", "CORNER_CELLS", [34, 4, 0, 26, 56, 60]), ("HexBilliards$Felt", "FIRST_OF_ROW", [0, 5, 11, 18, 26, 35, 43, 50, 56])]
def sT (i : Nat) (j : Nat) : Int32 := ((sL.getD i ("", "", [])).2.2).getD j 0
def Stt (E : Ev) (A : Nat → Prop) (U : State) (H : Heap) : Prop := ∀ (i : Nat) (q : String × String × List Int32), sL[i]? = some q → va_Z q.1 q.2.1 "[I" (.ref (E.2.2 i)) A U H ∧ va_T .int (E.2.2 i) q.2.2.length (fun j => .int (sT i j)) A U H
theorem Stt.moved {E : Ev} {A : Nat → Prop} {u U : State} {H : Heap} (hv : u.vm.Alike U.vm) (h : Stt E A u H) : Stt E A U H := fun i q hq => ⟨va_Z.moved hv (h i q hq).1, va_T.moved hv (h i q hq).2⟩
theorem Stt.pass {E : Ev} {A B : Nat → Prop} {s U : State} {H : Heap} {locs : List Loc} (h : Stt E A s s.heap) (hS : va_S A s.heap H locs) (hAB : ∀ q, B q → A q) (hU : U.heap = H) (hv : s.vm.Alike U.vm) : Stt E B U U.heap := by
  intro i q hq
  obtain ⟨h1, h2⟩ := h i q hq
  rw [hU]
  exact ⟨va_Z.moved hv ((h1.kept hS.2.1).narrow hAB), va_T.moved hv ((h2.kept hS.2.1).narrow hAB)⟩
/-- the links to nest mates' private members -/
def NL : List Cond := [.fieldLinkNest RX6 113 RX4 "turn" "I" RX6, .fieldLinkNest RX6 120 RX3 "gone" "I" RX6, .fieldLinkNest RX6 127 RX4 "run" "I" RX6, .fieldLinkNest RX6 137 RX0 "length" "I" RX6, .fieldLinkNest RX6 144 RX2 "size" "I" RX6, .fieldLinkNest RX6 169 RX4 "cellOf" "[I" RX6, .fieldLinkNest RX6 172 RX4 "valueOf" "[I" RX6, .fieldLinkNest RX6 175 RX4 "stepsOf" "[I" RX6, .fieldLinkNest RX6 178 RX4 "banksOf" "[I" RX6, .fieldLinkNest RX6 181 RX4 "hitsOf" "[I" RX6, .fieldLinkNest RX6 188 RX3 "steps" "I" RX6, .fieldLinkNest RX6 191 RX3 "banks" "I" RX6, .fieldLinkNest RX6 194 RX3 "hits" "I" RX6, .fieldLinkNest RX6 197 RX3 "mover" "I" RX6, .fieldLinkNest RX6 201 RX3 "speed" "F" RX6, .fieldLinkNest RX6 208 RX3 "walker" "LHexBilliards$Walker;" RX6, .fieldLinkNest RX6 220 RX5 "direction" "I" RX6, .fieldLinkNest RX6 226 RX5 "q" "I" RX6, .fieldLinkNest RX6 229 RX5 "r" "I" RX6, .fieldLinkNest RX6 236 RX4 "ballsSoFar" "I" RX6, .fieldLinkNest RX6 239 RX4 "scores" "[I" RX6, .fieldLinkNest RX6 242 RX4 "shots" "I" RX6, .fieldLinkNest RX6 245 RX4 "goneByShots" "I" RX6, .fieldLinkNest RX6 68 RX0 "balls" "I" RX6, .fieldLinkNest RX6 93 RX4 "openPots" "I" RX6, .fieldLinkNest RX3 74 RX4 "settings" "[I" RX6, .fieldLinkNest RX6 103 RX4 "settings" "[I" RX6, .fieldLinkNest RX4 42 RX6 "FIRST_SETTING" "[I" RX6, .methodLinkNest RX6 31 yX0_init RX6, .methodLinkNest RX6 38 yX3_init RX6, .methodLinkNest RX3 11 yX5_init RX6, .methodLinkNest RX4 97 yX6_isPlayer RX6]
def isNest : Cond → Bool
  | .fieldLinkNest .. => true
  | .methodLinkNest .. => true
  | _ => false
theorem NL_nest : NL.all isNest = true := rfl
theorem nest_warm {w : Cond} (h : isNest w = true) {s U : State} (hW : s.WarmedH U.vm) (hZ : va_Nw w s) : va_Nw w U := by
  cases w <;> first | (simp [isNest] at h; done) | exact va_Nw.warmF hW hZ | exact va_Nw.warmM hW hZ
theorem nest_tabs {w : Cond} (h : isNest w = true) : w.onTables = true := by
  cases w <;> first | (simp [isNest] at h; done) | rfl
def Nst (U : State) : Prop := ∀ w ∈ NL, va_Nw w U
theorem Nst.warm {s U : State} (hW : s.WarmedH U.vm) (h : Nst s) : Nst U := fun w hw => nest_warm (List.all_eq_true.mp NL_nest w hw) hW (h w hw)
theorem Nst.same {u U : State} (e : u.vm = U.vm) (h : Nst u) : Nst U := fun w hw => va_Nw.same (nest_tabs (List.all_eq_true.mp NL_nest w hw)) e (h w hw)
/-- a contract's start -/
def Pre (E : Ev) (wc : va_W) (U : State) : Prop := va_P E.1 vwCl wc U.heap ∧ va_K E.1 vwCl (tyL E) U ∧ va_D (fun _ => True) wc ∧ Stt E (hB wc) U U.heap ∧ Nst U
theorem Pre.blind (av : List Value) (E : Ev) (wc : va_W) : FrameBlind (va_Pc av (Pre E wc)) := fun a U g mk h => ⟨h.1, h.2.1, va_K.moved (u := U) (U := U.calling g mk a) (Vm.Alike.refl U.vm) h.2.2.1, h.2.2.2.1, Stt.moved (u := U) (U := U.calling g mk a) (Vm.Alike.refl U.vm) h.2.2.2.2.1, Nst.same (u := U) (U := U.calling g mk a) rfl h.2.2.2.2.2⟩
/-- a walk's standing facts -/
def Cx (p : Program) (m : MethodId) (meth : Method) (c : Code) (cc : ByteArray) (nL : Nat) (s : State) (args : Array Value) (own : String) (E : Ev) (A : Nat → Prop) : Prop :=
  p.tables.exec = Jvm.exec ∧ c.code = cc ∧ c.maxLocals = nL ∧ s.vm.findClass own = some m.cls ∧ (∀ w ∈ T0, w.before args s = true) ∧ va_K E.1 vwCl (tyL E) s ∧ Stt E A s s.heap ∧ Nst s ∧ meth.locks = false
/-- the heap now: the world's cells, apart; nothing else has changed since the start -/
def Wd (E : Ev) (A : Nat → Prop) (s : State) (ws : va_W) (H : Heap) (locs : List Loc) : Prop := va_P E.1 vwCl ws H ∧ va_D A ws ∧ va_S A s.heap H locs
/-- contracts: the answer and the world behind are functions -/
def QI (E : Ev) (wc : va_W) (r : Int32) (wc' : va_W) : Array Value → State → Outcome → State → Prop := va_Qi (fun (x : Int32) (_ : Unit) => x = r) (fun _ t => va_P E.1 vwCl wc' t.heap) (hB wc)
def QV (E : Ev) (wc : va_W) (wc' : va_W) : Array Value → State → Outcome → State → Prop := va_Qv (fun (_ : Unit) => True) (fun _ t => va_P E.1 vwCl wc' t.heap) (hB wc)
def QF (E : Ev) (wc : va_W) (r : UInt32) (wc' : va_W) : Array Value → State → Outcome → State → Prop := va_Qf (fun (x : UInt32) (_ : Unit) => x = r) (fun _ t => va_P E.1 vwCl wc' t.heap) (hB wc)
def KQ (l : Launch) (y : MethodName) (bytes : ByteArray) (maxL : Nat) (ret : Option FieldType) (fr lo : Nat) (E : Ev) (av : List Value) (wc : va_W) (Qc : Array Value → State → Outcome → State → Prop) : Prop :=
  Met l y (.code y bytes maxL ret :: T0) { frames := fr, cells := 0, slots := 0, locals := lo } (va_Pc av (Pre E wc)) Qc 0 0 (hB wc)
theorem metW {l : Launch} {y : MethodName} {ws ws' : List Cond} {rm : Room} {Pc : Array Value → State → Prop} {Qc : Array Value → State → Outcome → State → Prop} {mc ms : Nat} {free : Addr → Prop} {cc : ByteArray} {maxL : Nat} {ret : Option FieldType}
    (hy : plainFor y = true) (hw : ws = Cond.code y cc maxL ret :: ws')
    (body : ∀ p e s m args below meth c s₁, BodyLoose p l y (headSpec ws rm) cc maxL ret e s m args below meth c s₁ → c.maxLocals = maxL → Pc args s →
      W p l e (headSpec ws rm).room s m args below meth c s.heap [] 0 0 (MQ below Qc args s mc ms free) (entryFrame m args maxL)) : Met l y ws rm Pc Qc mc ms free := by
  refine MetFree.of_bodySF (code := cc) (maxLocals := maxL) (ret := ret) hy ?_ ?_
  · intro args s m h hn
    obtain ⟨meth, c, h1, h2, h3, h4, h5, h6, -, -⟩ := Cond.code_spec hn (atoms_spec (ws := ws) h _ (by rw [hw]; exact List.mem_cons_self))
    exact ⟨meth, c, h1, h2, h3, h4, h5, h6⟩
  · intro p e s m args below meth c s₁ B hml hP _
    have hh0 : s₁.heap = s.heap := by rw [B.state]; rfl
    obtain ⟨t, a1, o, b1, b2, b3⟩ := body p e s m args below meth c s₁ B hml hP s₁ hh0 (Stand.of_body B)
    exact ⟨t, o, a1, b1, b2, ⟨b3.1, b3.2⟩⟩
theorem KQ.mk {l : Launch} {y : MethodName} {bytes : ByteArray} {maxL : Nat} {ret : Option FieldType} {fr lo : Nat} {E : Ev} {av : List Value} {wc : va_W} {Qc : Array Value → State → Outcome → State → Prop} (own : String) (hown : y.cls = own) (hy : plainFor y = true) (hlen : (lg_sl av).length ≤ maxL)
    (body : ∀ (p : Program) (e : Env) (s : State) (m : MethodId) (below : List Frame) (meth : Method) (c : Code) (ls : Array Slot), Cx p m meth c bytes maxL s av.toArray own E (hB wc) → meth.sig.returnType = ret → Wd E (hB wc) s wc s.heap [] → lv_has ls maxL (lv_args 0 av) →
      W p l e { frames := fr, cells := 0, slots := 0, locals := lo } s m av.toArray below meth c s.heap [] 0 0 (MQ below Qc av.toArray s 0 0 (hB wc)) (F0 m 0 ls [])) : KQ l y bytes maxL ret fr lo E av wc Qc := by
  refine metW (cc := bytes) (maxL := maxL) (ret := ret) hy rfl ?_
  intro p e s m args below meth c s₁ B hml hv
  obtain ⟨rfl, hP, hK, hD0, hT, hN⟩ := hv
  have hts := atoms_spec (ws := .code y bytes maxL ret :: T0) B.pre
  have hf := findClass_of_methodNamed B.named
  rw [hown] at hf
  rw [lg_entry_eq]
  exact body p e s m below meth c _ ⟨B.exec, B.bytes, hml, hf, fun w hw => hts w (List.mem_cons_of_mem _ hw), hK, hT, hN, B.notSynchronized⟩ B.returns ⟨hP, ⟨hD0.1, fun k q hk => ⟨k, q.2, hk⟩⟩, va_S.rf⟩ (lv_entry av hlen)
/-- worlds: cells put at places -/
def wput (ws : va_W) : List Nat → va_W → va_W
  | i :: is, q :: qs => wput (ws.set i q) is qs
  | _, _ => ws
theorem wput_get : ∀ (is : List Nat) (qs ws : va_W) (k : Nat) (q : Nat × va_E), (wput ws is qs)[k]? = some q → (∃ j : Nat, qs[j]? = some q ∧ is[j]? = some k) ∨ (ws[k]? = some q ∧ ∀ j : Nat, is[j]? = some k → qs.length ≤ j)
  | [], qs, ws, k, q, h => Or.inr ⟨by simpa [wput] using h, fun j hj => by simp at hj⟩
  | i :: is, [], ws, k, q, h => Or.inr ⟨by simpa [wput] using h, fun j _ => Nat.zero_le j⟩
  | i :: is, a :: qs, ws, k, q, h => by
    rcases wput_get is qs (ws.set i a) k q h with ⟨j, h1, h2⟩ | ⟨h1, h2⟩
    · exact Or.inl ⟨j + 1, by simpa using h1, by simpa using h2⟩
    · by_cases hk : i = k
      · subst hk
        have hlt : i < (ws.set i a).length := (List.getElem?_eq_some_iff.mp h1).1
        rw [List.getElem?_set_self (by simpa using hlt)] at h1
        exact Or.inl ⟨0, by simpa using h1, by simp⟩
      · rw [List.getElem?_set_ne hk] at h1
        refine Or.inr ⟨h1, fun j hj => ?_⟩
        cases j with
        | zero => exact absurd (by simpa using hj) hk
        | succ j => simpa using Nat.succ_le_succ (h2 j (by simpa using hj))
theorem pick_at {is : List Nat} {ws w : va_W} (hs : is.map (fun i => ws[i]?) = w.map some) (k : Nat) (q : Nat × va_E) (hq : w[k]? = some q) : ∃ i, is[k]? = some i ∧ ws[i]? = some q := by
  have h1 : (is.map (fun i => ws[i]?))[k]? = some (some q) := by rw [hs, List.getElem?_map, hq]; rfl
  rw [List.getElem?_map] at h1
  cases hi : is[k]? with
  | none => rw [hi] at h1; cases h1
  | some i => rw [hi] at h1; exact ⟨i, rfl, Option.some.inj h1⟩
theorem fst_at {wc wc' : va_W} (ha : wc'.map Prod.fst = wc.map Prod.fst) (k : Nat) (q : Nat × va_E) (hq : wc'[k]? = some q) : ∃ q0, wc[k]? = some q0 ∧ q0.1 = q.1 := by
  have h1 : (wc'.map Prod.fst)[k]? = some q.1 := by rw [List.getElem?_map, hq]; rfl
  rw [ha, List.getElem?_map] at h1
  cases hi : wc[k]? with
  | none => rw [hi] at h1; cases h1
  | some q0 => rw [hi] at h1; exact ⟨q0, rfl, Option.some.inj h1⟩
theorem len_at {is : List Nat} {ws w : va_W} (hs : is.map (fun i => ws[i]?) = w.map some) : is.length = w.length := by
  have := congrArg List.length hs
  simpa using this
theorem Wd.call {E : Ev} {A : Nat → Prop} {s : State} {ws wc wc' : va_W} {H H1 : Heap} {locs locs1 : List Loc} (w : Wd E A s ws H locs) (is : List Nat) (hC : is.map (fun i => ws[i]?) = wc.map some) (ha : wc'.map Prod.fst = wc.map Prod.fst) (hk : ∀ q : Nat, q < H.size → ¬ hB wc q → H1[q]? = H[q]?) (hP1 : va_P E.1 vwCl wc' H1) (hS1 : va_S A s.heap H1 locs1) : Wd E A s (wput ws is wc') H1 locs1 := by
  obtain ⟨hP, hD, hS⟩ := w
  have hl : wc'.length = is.length := by rw [len_at hC, ← List.length_map (f := Prod.fst) (as := wc), ← ha, List.length_map]
  have key : ∀ (k : Nat) (q : Nat × va_E), (wput ws is wc')[k]? = some q → ∃ q0, ws[k]? = some q0 ∧ q0.1 = q.1 := by
    intro k q hq
    rcases wput_get is wc' ws k q hq with ⟨j, h1, h2⟩ | ⟨h1, -⟩
    · obtain ⟨q0, h3, h4⟩ := fst_at ha j q h1
      obtain ⟨i, h5, h6⟩ := pick_at hC j q0 h3
      rw [h2] at h5
      cases h5
      exact ⟨q0, h6, h4⟩
    · exact ⟨q, h1, rfl⟩
  refine ⟨fun k q hq => ?_, ⟨fun i j x y hi hj hxy => ?_, fun k q hq => ?_⟩, hS1⟩
  · rcases wput_get is wc' ws k q hq with ⟨j, h1, -⟩ | ⟨h1, h2⟩
    · exact hP1 j q h1
    · have hlt := (hP k q h1).lt
      refine (hP k q h1).kept (hk q.1 hlt ?_)
      rintro ⟨j, e, h3⟩
      obtain ⟨i, h5, h6⟩ := pick_at hC j _ h3
      have hik := hD.1 k i q _ h1 h6 rfl
      subst hik
      have h7 := h2 j h5
      have h8 := (List.getElem?_eq_some_iff.mp h5).1
      omega
  · obtain ⟨x0, h1, h2⟩ := key i x hi
    obtain ⟨y0, h3, h4⟩ := key j y hj
    exact hD.1 i j x0 y0 h1 h3 (h2.trans (hxy.trans h4.symm))
  · obtain ⟨q0, h1, h2⟩ := key k q hq
    rw [← h2]
    exact hD.2 k q0 h1
theorem Wd.sub {E : Ev} {A : Nat → Prop} {s : State} {ws wc : va_W} {H : Heap} {locs : List Loc} (w : Wd E A s ws H locs) (is : List Nat) (hC : is.map (fun i => ws[i]?) = wc.map some) (hn : va_nd is = true) : va_P E.1 vwCl wc H ∧ va_D A wc ∧ (∀ q, hB wc q → A q) := by
  refine ⟨fun k q hq => ?_, w.2.1.sub is hn hC, ?_⟩
  · obtain ⟨i, -, h2⟩ := pick_at hC k q hq
    exact w.1 i q h2
  · rintro q ⟨k, e, hq⟩
    obtain ⟨i, -, h2⟩ := pick_at hC k _ hq
    exact w.2.1.2 i _ h2
