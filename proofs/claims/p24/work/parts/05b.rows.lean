/-! more rows: a static private method of a nest mate; a whole array copied; a character stored -/
theorem arr_ext {cA : ClassId} {n : Nat} {f g : Nat → Int32} (h : ∀ j : Nat, j < n → f j = g j) : vp_cell cA (n, .inl f) = vp_cell cA (n, .inl g) := by
  rw [vp_cell_i, vp_cell_i]
  unfold arrV
  congr 1
  apply Array.ext
  · simp
  · intro j h1 h2
    simp at h1 ⊢
    exact h j (by simpa using h1)
theorem Wd.arr {E : Ev} {A : Nat → Prop} {s : State} {ws : va_W} {H : Heap} {locs : List Loc} (w : Wd E A s ws H locs) (q0 : Nat) {a : Nat} {cA : ClassId} {n : Nat} {f : Nat → Int32} (g : Nat → Int32) (ha : ws[q0]? = some (a, .inl (cA, n, .inl f))) (h : ∀ j : Nat, j < n → f j = g j) : Wd E A s (ws.set q0 (a, .inl (cA, n, .inl g))) H locs := by
  obtain ⟨hP, hD, hS⟩ := w
  refine ⟨hP.set hD ha ?_ (fun _ _ => rfl), hD.set ha, hS⟩
  have h0 := hP q0 _ ha
  show H[a]? = some (vp_cell cA (n, .inl g))
  rw [← arr_ext h]
  exact h0
section RD
variable {p : Program} {l : Launch} {e : Env} {R : Room} {s : State} {m : MethodId} {args : Array Value} {below : List Frame} {meth : Method} {c : Code} {H : Heap} {locs : List Loc} {cells slots : Nat} {Q : State → Prop}
variable {cc : ByteArray} {nL : Nat} {own : String} {E : Ev} {A : Nat → Prop} {ws : va_W} {pc : Nat} {ls : Array Slot} {rest st0 : List Value} {a : Nat}
variable {y : MethodName} {bytes : ByteArray} {maxL : Nat} {ret : Option FieldType} {fr lo : Nat} {wc wc' : va_W} {As : List Value} {index n : Nat} {C host : String}
def CkN (own : String) (index : Nat) (y : MethodName) (bytes : ByteArray) (maxL : Nat) (ret : Option FieldType) (n : Nat) : Prop := Cond.methodLinkNest own index y RX6 ∈ NL ∧ Cond.static y ∈ T0 ∧ Cond.initialized y.cls ∈ T0 ∧ Cond.code y bytes maxL ret ∈ T0 ∧ (y.cls ≠ "java/lang/invoke/MethodHandle" ∧ y.cls ≠ "java/lang/invoke/VarHandle" ∧ (parseMethodDescriptor y.desc).map (fun d => d.parameters.length) = some n)
theorem code_good (h5 : Cond.code y bytes maxL ret ∈ T0) : GoodIn T0 (.code y bytes maxL ret :: T0) := by
  intro w hw
  have hm : w ∈ T0 := by
    rcases List.mem_cons.mp hw with rfl | hw
    · exact h5
    · exact hw
  exact ⟨hm, good_of_word (T0_good w hm)⟩
theorem r_runSN {Qc : Array Value → State → Outcome → State → Prop} (X : Cx p m meth c cc nL s args own E A) (w : Wd E A s ws H locs) (hM : KQ l y bytes maxL ret fr lo E As wc Qc) (ck : CkN own index y bytes maxL ret As.length) (hR : fr + 1 ≤ R.frames ∧ 8 + (maxL + 11) + lo ≤ R.locals) (is : List Nat) (hC : is.map (fun i => ws[i]?) = wc.map some) (hn : va_nd is = true) (hsz : ls.size = nL) (hst : (rest.map fun v => v.category).sum ≤ 8) (hstack : st0 = As.reverse ++ rest) (hdg : decode cc pc = .ok (.invokestatic index, 3)) (hcs : cells ≤ R.cells ∧ slots ≤ R.slots) :
    va_Run p l e R s m args below meth c H locs cells slots 0 0 (F0 m pc ls st0) rest (Qc As.toArray) (hB wc) := by
  have hts := X.2.2.2.2.1
  have hN := X.2.2.2.2.2.2.2.1
  exact va_runSN ⟨X.1, X.2.1, X.2.2.1, X.2.2.2.1, hts⟩ hM ⟨va_cnB As.length hts (code_good ck.2.2.2.1) rfl rfl rfl (hN _ ck.1) (hts _ ck.2.2.1) ck.2.2.2.2 hR, hts _ ck.2.1, trivial⟩ ⟨Pre.blind _ _ _, fun U hU hW => ⟨rfl, w.pre X is hC hn U hU hW⟩⟩ rfl rfl hsz hstack (lv_room hst) hdg hcs
theorem r_copy (X : Cx p m meth c cc nL s args own E A) (w : Wd E A s ws H locs) (ws' : va_W) (hlink : Cond.methodLink own index arraycopyName ∈ T0) (q0 q1 : Nat) {a0 n : Nat} {f g : Nat → Int32} (ha0 : ws[q0]? = some (a0, .inl (E.2.1.1, n, .inl f))) (ha1 : ws[q1]? = some (a, .inl (E.2.1.1, n, .inl g))) {k : Int32} (hk : ¬ k < 0) (hkn : k.toNatClampNeg = n) (hw : ws.set q1 (a, .inl (E.2.1.1, n, .inl f)) = ws') (hsz : ls.size = nL) (hframes : 1 ≤ R.frames) (hlocals : (rest.map fun v => v.category).sum + (nativeFrameWords "java/lang/System" "arraycopy" 5 + 11) ≤ R.locals) (hdg : decode cc pc = .ok (.invokestatic index, 3))
    (kk : ∀ (H1 : Heap) (locs1 : List Loc), Wd E A s ws' H1 locs1 → W p l e R s m args below meth c H1 locs1 cells slots Q (F0 m (pc + 3) ls rest)) : W p l e R s m args below meth c H locs cells slots Q (F0 m pc ls (.int k :: .int 0 :: .ref a :: .int 0 :: .ref a0 :: rest)) := by
  subst hw
  have hts := X.2.2.2.2.1
  refine va_copyi X.1 X.2.1 (X.2.2.1.trans hsz.symm) X.2.2.2.1 (hts _ hlink) (hts _ wnat_arraycopyName) (hts _ wst_arraycopyName) (hts _ wi_java_lang_System) X.2.2.2.2.2.1 w.1 w.2.1 w.2.2 q0 q1 0 0 ha0 ha1 rfl rfl rfl (by decide) (by decide) hk (by rw [hkn]; show 0 + n ≤ n; omega) (by rw [hkn]; show 0 + n ≤ n; omega) (fun _ _ => rfl) hframes hlocals hdg (fun H1 locs1 h1 h2 h3 => ?_)
  refine kk H1 locs1 ?_
  have w1 : Wd E A s (ws.set q1 (a, .inl (E.2.1.1, n, .inl (va_cpy f g (0 : Int32).toNatClampNeg (0 : Int32).toNatClampNeg k.toNatClampNeg)))) H1 locs1 := ⟨h1, h2, h3⟩
  have hlt : q1 < ws.length := (List.getElem?_eq_some_iff.mp ha1).1
  have w2 := w1.arr q1 f (List.getElem?_set_self hlt) (fun j hj => by
    show va_cpy f g 0 0 k.toNatClampNeg j = f j
    rw [pk_cpy_in (Nat.zero_le j) (by rw [hkn]; show j < 0 + n; omega)]
    show f (0 + (j - 0)) = f j
    rw [Nat.zero_add, Nat.sub_zero])
  rw [List.set_set] at w2
  exact w2
theorem r_cast (X : Cx p m meth c cc nL s args own E A) (w : Wd E A s ws H locs) (ws' : va_W) (q0 : Nat) {n : Nat} {f : Nat → Int32} (ha : ws[q0]? = some (a, .inl (E.2.1.2.1, n, .inl f))) {i x : Int32} (hin : vp_in i n) (hx : vp_nar .char x = x) (hw : ws.set q0 (a, .inl (E.2.1.2.1, n, .inl (upd f i.toNatClampNeg x))) = ws') (hdg : decode cc pc = .ok (.castore, 1))
    (kk : ∀ (H1 : Heap) (locs1 : List Loc), Wd E A s ws' H1 locs1 → W p l e R s m args below meth c H1 locs1 cells slots Q (F0 m (pc + 1) ls rest)) : W p l e R s m args below meth c H locs cells slots Q (F0 m pc ls (.int x :: .int i :: .ref a :: rest)) := by
  subst hw
  exact va_cast X.1 X.2.1 X.2.2.2.2.2.1 w.1 w.2.1 w.2.2 q0 1 ha rfl hin hdg (fun H1 locs1 h1 h2 h3 => kk H1 locs1 (by rw [hx] at h1 h2; exact ⟨h1, h2, h3⟩))
end RD
theorem nl_0 : Cond.fieldLinkNest RX6 113 RX4 "turn" "I" RX6 ∈ NL := List.mem_of_getElem? (i := 0) rfl
theorem nl_1 : Cond.fieldLinkNest RX6 120 RX3 "gone" "I" RX6 ∈ NL := List.mem_of_getElem? (i := 1) rfl
theorem nl_2 : Cond.fieldLinkNest RX6 127 RX4 "run" "I" RX6 ∈ NL := List.mem_of_getElem? (i := 2) rfl
theorem nl_3 : Cond.fieldLinkNest RX6 137 RX0 "length" "I" RX6 ∈ NL := List.mem_of_getElem? (i := 3) rfl
theorem nl_4 : Cond.fieldLinkNest RX6 144 RX2 "size" "I" RX6 ∈ NL := List.mem_of_getElem? (i := 4) rfl
theorem nl_5 : Cond.fieldLinkNest RX6 169 RX4 "cellOf" "[I" RX6 ∈ NL := List.mem_of_getElem? (i := 5) rfl
theorem nl_6 : Cond.fieldLinkNest RX6 172 RX4 "valueOf" "[I" RX6 ∈ NL := List.mem_of_getElem? (i := 6) rfl
theorem nl_7 : Cond.fieldLinkNest RX6 175 RX4 "stepsOf" "[I" RX6 ∈ NL := List.mem_of_getElem? (i := 7) rfl
theorem nl_8 : Cond.fieldLinkNest RX6 178 RX4 "banksOf" "[I" RX6 ∈ NL := List.mem_of_getElem? (i := 8) rfl
theorem nl_9 : Cond.fieldLinkNest RX6 181 RX4 "hitsOf" "[I" RX6 ∈ NL := List.mem_of_getElem? (i := 9) rfl
theorem nl_10 : Cond.fieldLinkNest RX6 188 RX3 "steps" "I" RX6 ∈ NL := List.mem_of_getElem? (i := 10) rfl
theorem nl_11 : Cond.fieldLinkNest RX6 191 RX3 "banks" "I" RX6 ∈ NL := List.mem_of_getElem? (i := 11) rfl
theorem nl_12 : Cond.fieldLinkNest RX6 194 RX3 "hits" "I" RX6 ∈ NL := List.mem_of_getElem? (i := 12) rfl
theorem nl_13 : Cond.fieldLinkNest RX6 197 RX3 "mover" "I" RX6 ∈ NL := List.mem_of_getElem? (i := 13) rfl
theorem nl_14 : Cond.fieldLinkNest RX6 201 RX3 "speed" "F" RX6 ∈ NL := List.mem_of_getElem? (i := 14) rfl
theorem nl_15 : Cond.fieldLinkNest RX6 208 RX3 "walker" "LHexBilliards$Walker;" RX6 ∈ NL := List.mem_of_getElem? (i := 15) rfl
theorem nl_16 : Cond.fieldLinkNest RX6 220 RX5 "direction" "I" RX6 ∈ NL := List.mem_of_getElem? (i := 16) rfl
theorem nl_17 : Cond.fieldLinkNest RX6 226 RX5 "q" "I" RX6 ∈ NL := List.mem_of_getElem? (i := 17) rfl
theorem nl_18 : Cond.fieldLinkNest RX6 229 RX5 "r" "I" RX6 ∈ NL := List.mem_of_getElem? (i := 18) rfl
theorem nl_19 : Cond.fieldLinkNest RX6 236 RX4 "ballsSoFar" "I" RX6 ∈ NL := List.mem_of_getElem? (i := 19) rfl
theorem nl_20 : Cond.fieldLinkNest RX6 239 RX4 "scores" "[I" RX6 ∈ NL := List.mem_of_getElem? (i := 20) rfl
theorem nl_21 : Cond.fieldLinkNest RX6 242 RX4 "shots" "I" RX6 ∈ NL := List.mem_of_getElem? (i := 21) rfl
theorem nl_22 : Cond.fieldLinkNest RX6 245 RX4 "goneByShots" "I" RX6 ∈ NL := List.mem_of_getElem? (i := 22) rfl
theorem nl_23 : Cond.fieldLinkNest RX6 68 RX0 "balls" "I" RX6 ∈ NL := List.mem_of_getElem? (i := 23) rfl
theorem nl_24 : Cond.fieldLinkNest RX6 93 RX4 "openPots" "I" RX6 ∈ NL := List.mem_of_getElem? (i := 24) rfl
theorem nl_25 : Cond.fieldLinkNest RX3 74 RX4 "settings" "[I" RX6 ∈ NL := List.mem_of_getElem? (i := 25) rfl
theorem nl_26 : Cond.fieldLinkNest RX6 103 RX4 "settings" "[I" RX6 ∈ NL := List.mem_of_getElem? (i := 26) rfl
theorem nl_27 : Cond.fieldLinkNest RX4 42 RX6 "FIRST_SETTING" "[I" RX6 ∈ NL := List.mem_of_getElem? (i := 27) rfl
theorem nl_28 : Cond.methodLinkNest RX6 31 yX0_init RX6 ∈ NL := List.mem_of_getElem? (i := 28) rfl
theorem nl_29 : Cond.methodLinkNest RX6 38 yX3_init RX6 ∈ NL := List.mem_of_getElem? (i := 29) rfl
theorem nl_30 : Cond.methodLinkNest RX3 11 yX5_init RX6 ∈ NL := List.mem_of_getElem? (i := 30) rfl
theorem nl_31 : Cond.methodLinkNest RX4 97 yX6_isPlayer RX6 ∈ NL := List.mem_of_getElem? (i := 31) rfl
/-! blocks of a world: read and put whole -/
def rg (s : Nat) : Nat → List Nat
  | 0 => []
  | n + 1 => s :: rg (s + 1) n
theorem wput_app : ∀ {is1 is2 : List Nat} {q1 q2 ws : va_W}, is1.length = q1.length → wput ws (is1 ++ is2) (q1 ++ q2) = wput (wput ws is1 q1) is2 q2
  | [], is2, [], q2, ws, _ => rfl
  | [], is2, a :: q1, q2, ws, h => by simp at h
  | i :: is1, is2, [], q2, ws, h => by simp at h
  | i :: is1, is2, a :: q1, q2, ws, h => by
    show wput (ws.set i a) (is1 ++ is2) (q1 ++ q2) = wput (wput (ws.set i a) is1 q1) is2 q2
    exact wput_app (by simpa using h)
theorem set_mid (A C : va_W) (b b' : Nat × va_E) : (A ++ (b :: C)).set A.length b' = A ++ (b' :: C) := by
  rw [List.set_append_right _ _ (Nat.le_refl _), Nat.sub_self]
  rfl
theorem put0 : ∀ (B B' A C : va_W), B.length = B'.length → wput (A ++ (B ++ C)) (rg A.length B'.length) B' = A ++ (B' ++ C)
  | [], [], A, C, _ => rfl
  | [], a :: B', A, C, h => by simp at h
  | b :: B, [], A, C, h => by simp at h
  | b :: B, b' :: B', A, C, h => by
    show wput ((A ++ (b :: (B ++ C))).set A.length b') (rg (A.length + 1) B'.length) B' = A ++ (b' :: (B' ++ C))
    rw [set_mid]
    have h2 := put0 B B' (A ++ [b']) C (by simpa using h)
    rw [List.append_assoc, List.append_assoc, List.length_append] at h2
    exact h2
theorem get0 : ∀ (B A C : va_W), (rg A.length B.length).map (fun i => (A ++ (B ++ C))[i]?) = B.map some
  | [], A, C => rfl
  | b :: B, A, C => by
    have h2 := get0 B (A ++ [b]) C
    rw [List.append_assoc, List.length_append] at h2
    show (A ++ (b :: (B ++ C)))[A.length]? :: (rg (A.length + 1) B.length).map (fun i => (A ++ (b :: (B ++ C)))[i]?) = some b :: B.map some
    rw [show (A ++ (b :: (B ++ C)))[A.length]? = some b by simp]
    exact congrArg (some b :: ·) h2
theorem put1 {A B C B' : va_W} {s n : Nat} (hs : A.length = s) (hn : B.length = n) (hn' : B'.length = n) : wput (A ++ (B ++ C)) (rg s n) B' = A ++ (B' ++ C) := by
  subst hs
  subst hn'
  exact put0 B B' A C hn
theorem get1 {A B C : va_W} {s n : Nat} (hs : A.length = s) (hn : B.length = n) : (rg s n).map (fun i => (A ++ (B ++ C))[i]?) = B.map some := by
  subst hs
  subst hn
  exact get0 B A C
theorem fst_app {A B A' B' : va_W} (h1 : A'.map Prod.fst = A.map Prod.fst) (h2 : B'.map Prod.fst = B.map Prod.fst) : (A' ++ B').map Prod.fst = (A ++ B).map Prod.fst := by
  rw [List.map_append, List.map_append, h1, h2]
theorem get_app {ws B1 B2 : va_W} {is1 is2 : List Nat} (h1 : is1.map (fun i => ws[i]?) = B1.map some) (h2 : is2.map (fun i => ws[i]?) = B2.map some) : (is1 ++ is2).map (fun i => ws[i]?) = (B1 ++ B2).map some := by
  rw [List.map_append, List.map_append, h1, h2]
theorem r_ialdL {p : Program} {l : Launch} {e : Env} {R : Room} {s : State} {m : MethodId} {args : Array Value} {below : List Frame} {meth : Method} {c : Code} {H : Heap} {locs : List Loc} {cells slots : Nat} {Q : State → Prop} {cc : ByteArray} {nL : Nat} {own : String} {E : Ev} {A : Nat → Prop} {ws : va_W} {pc : Nat} {ls : Array Slot} {rest : List Value} {a : Nat} (X : Cx p m meth c cc nL s args own E A) (w : Wd E A s ws H locs) (q0 : Nat) {n : Nat} {f : Nat → Int32} (ha : ws[q0]? = some (a, .inl (E.2.1.1, n, .inl f))) {i : Int32} {j : Nat} (hj : i.toNatClampNeg = j) (hin : vp_in i n) (hdg : decode cc pc = .ok (.iaload, 1))
    (kk : W p l e R s m args below meth c H locs cells slots Q (F0 m (pc + 1) ls (.int (f j) :: rest))) : W p l e R s m args below meth c H locs cells slots Q (F0 m pc ls (.int i :: .ref a :: rest)) := by
  subst hj
  exact r_iald X w q0 ha hin hdg kk
/-! a tuple's parts -/
theorem tup2 {α β : Type} {f : α × β} {A : α} {B : β} (h : f = (A, B)) : f.1 = A ∧ f.2 = B := by subst h; exact ⟨rfl, rfl⟩
theorem tup3 {α β γ : Type} {f : α × β × γ} {A : α} {B : β} {C : γ} (h : f = (A, B, C)) : f.1 = A ∧ f.2.1 = B ∧ f.2.2 = C := by subst h; exact ⟨rfl, rfl, rfl⟩
theorem tup4 {α β γ δ : Type} {f : α × β × γ × δ} {A : α} {B : β} {C : γ} {D : δ} (h : f = (A, B, C, D)) : f.1 = A ∧ f.2.1 = B ∧ f.2.2.1 = C ∧ f.2.2.2 = D := by subst h; exact ⟨rfl, rfl, rfl, rfl⟩
theorem tup5 {α β γ δ ε : Type} {f : α × β × γ × δ × ε} {A : α} {B : β} {C : γ} {D : δ} {F : ε} (h : f = (A, B, C, D, F)) : f.1 = A ∧ f.2.1 = B ∧ f.2.2.1 = C ∧ f.2.2.2.1 = D ∧ f.2.2.2.2 = F := by subst h; exact ⟨rfl, rfl, rfl, rfl, rfl⟩
theorem tup6 {α β γ δ ε ζ : Type} {f : α × β × γ × δ × ε × ζ} {A : α} {B : β} {C : γ} {D : δ} {F : ε} {G : ζ} (h : f = (A, B, C, D, F, G)) : f.1 = A ∧ f.2.1 = B ∧ f.2.2.1 = C ∧ f.2.2.2.1 = D ∧ f.2.2.2.2.1 = F ∧ f.2.2.2.2.2 = G := by subst h; exact ⟨rfl, rfl, rfl, rfl, rfl, rfl⟩
theorem tup7 {α β γ δ ε ζ η : Type} {f : α × β × γ × δ × ε × ζ × η} {A : α} {B : β} {C : γ} {D : δ} {F : ε} {G : ζ} {I : η} (h : f = (A, B, C, D, F, G, I)) : f.1 = A ∧ f.2.1 = B ∧ f.2.2.1 = C ∧ f.2.2.2.1 = D ∧ f.2.2.2.2.1 = F ∧ f.2.2.2.2.2.1 = G ∧ f.2.2.2.2.2.2 = I := by subst h; exact ⟨rfl, rfl, rfl, rfl, rfl, rfl, rfl⟩
theorem tup8 {α β γ δ ε ζ η θ : Type} {f : α × β × γ × δ × ε × ζ × η × θ} {A : α} {B : β} {C : γ} {D : δ} {F : ε} {G : ζ} {I : η} {J : θ} (h : f = (A, B, C, D, F, G, I, J)) : f.1 = A ∧ f.2.1 = B ∧ f.2.2.1 = C ∧ f.2.2.2.1 = D ∧ f.2.2.2.2.1 = F ∧ f.2.2.2.2.2.1 = G ∧ f.2.2.2.2.2.2.1 = I ∧ f.2.2.2.2.2.2.2 = J := by subst h; exact ⟨rfl, rfl, rfl, rfl, rfl, rfl, rfl, rfl⟩
theorem tup9 {α β γ δ ε ζ η θ ι : Type} {f : α × β × γ × δ × ε × ζ × η × θ × ι} {A : α} {B : β} {C : γ} {D : δ} {F : ε} {G : ζ} {I : η} {J : θ} {K : ι} (h : f = (A, B, C, D, F, G, I, J, K)) : f.1 = A ∧ f.2.1 = B ∧ f.2.2.1 = C ∧ f.2.2.2.1 = D ∧ f.2.2.2.2.1 = F ∧ f.2.2.2.2.2.1 = G ∧ f.2.2.2.2.2.2.1 = I ∧ f.2.2.2.2.2.2.2.1 = J ∧ f.2.2.2.2.2.2.2.2 = K := by subst h; exact ⟨rfl, rfl, rfl, rfl, rfl, rfl, rfl, rfl, rfl⟩
theorem tup10 {α β γ δ ε ζ η θ ι κ : Type} {f : α × β × γ × δ × ε × ζ × η × θ × ι × κ} {A : α} {B : β} {C : γ} {D : δ} {F : ε} {G : ζ} {I : η} {J : θ} {K : ι} {L : κ} (h : f = (A, B, C, D, F, G, I, J, K, L)) : f.1 = A ∧ f.2.1 = B ∧ f.2.2.1 = C ∧ f.2.2.2.1 = D ∧ f.2.2.2.2.1 = F ∧ f.2.2.2.2.2.1 = G ∧ f.2.2.2.2.2.2.1 = I ∧ f.2.2.2.2.2.2.2.1 = J ∧ f.2.2.2.2.2.2.2.2.1 = K ∧ f.2.2.2.2.2.2.2.2.2 = L := by subst h; exact ⟨rfl, rfl, rfl, rfl, rfl, rfl, rfl, rfl, rfl, rfl⟩
