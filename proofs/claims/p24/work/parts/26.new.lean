/-! a static row copied into a row of ours (wip/whole/gen/pre26.lean) -/
section RT
variable {p : Program} {l : Launch} {e : Env} {R : Room} {s : State} {m : MethodId} {args : Array Value} {below : List Frame} {meth : Method} {c : Code} {H : Heap} {locs : List Loc} {cells slots : Nat} {Q : State → Prop}
variable {cc : ByteArray} {nL : Nat} {own : String} {E : Ev} {A : Nat → Prop} {ws : va_W} {pc : Nat} {ls : Array Slot} {rest : List Value} {a index : Nat}
theorem clamp_i {z : Int32} (hz : ¬ z < 0) : z.toInt = (z.toNatClampNeg : Int) := by
  rw [Int32.lt_iff_toInt_lt, Int32.toInt_zero] at hz
  rw [Int32.toNatClampNeg]
  omega
theorem r_copyT (X : Cx p m meth c cc nL s args own E A) (w : Wd E A s ws H locs) (ws' : va_W) (hlink : Cond.methodLink own index arraycopyName ∈ T0) (i : Nat) {ref nn : String} {L : List Int32} (hi : sL[i]? = some (ref, nn, L)) (q1 : Nat) {n : Nat} {g : Nat → Int32} (ha1 : ws[q1]? = some (a, .inl (E.2.1.1, n, .inl g))) {k : Int32} (hk : ¬ k < 0) (hkn : k.toNatClampNeg = n) (hL : L.length = n) (hw : ws.set q1 (a, .inl (E.2.1.1, n, .inl (sT i))) = ws') (hsz : ls.size = nL) (hframes : 1 ≤ R.frames) (hlocals : (rest.map fun v => v.category).sum + (nativeFrameWords "java/lang/System" "arraycopy" 5 + 11) ≤ R.locals) (hdg : decode cc pc = .ok (.invokestatic index, 3))
    (kk : ∀ (H1 : Heap) (locs1 : List Loc), Wd E A s ws' H1 locs1 → W p l e R s m args below meth c H1 locs1 cells slots Q (F0 m (pc + 3) ls rest)) : W p l e R s m args below meth c H locs cells slots Q (F0 m pc ls (.int k :: .int 0 :: .ref a :: .int 0 :: .ref (E.2.2 i) :: rest)) := by
  subst hw
  obtain ⟨hx, hb, hml, hown, hts, hK, hT0, hN9, hlk⟩ := X
  obtain ⟨hP, hD, hS⟩ := w
  obtain ⟨src, t1, t2, t3, t4, -, t6, t7⟩ := (hT0 i _ hi).2
  intro T hT X
  have hlt : E.2.2 i < s.heap.size := (Array.getElem?_eq_some_iff.mp t1).1
  have hc0 : H[E.2.2 i]? = some src := by rw [hS.2.1 _ hlt t7]; exact t1
  have hc1 : H[a]? = some (vp_cell E.2.1.1 (n, .inl g)) := hP q1 _ ha1
  obtain ⟨u1, k0, hk0, cm0, hkk0⟩ := t2
  obtain ⟨-, k1, hk1, cm1, hkk1⟩ := (hK.2 0 _ rfl).1 n (fun j => .int (g j))
  have hz : ¬ (0 : Int32) < 0 := by decide
  have e0 : (0 : Int32).toNatClampNeg = 0 := rfl
  have hv : ∀ j : Nat, j < n → src.slots[j]? = some (.int (sT i j)) := fun j hj => t6 j (by rw [hL]; exact hj)
  have hlen : n ≤ src.slots.size := by
    have := t4
    rw [hL] at this
    exact this
  obtain ⟨vm', X', step⟩ := X.arraycopy hx hown (hts _ hlink) (hts _ wnat_arraycopyName) (hts _ wst_arraycopyName) (hts _ wi_java_lang_System) (src := E.2.2 i) (dst := a) (cs := src) (cd := vp_cell E.2.1.1 (n, .inl g)) (srcPos := 0) (destPos := 0) (n := k) (by rw [hT]; exact hc0) (by rw [hT]; exact hc1)
    u1 (fun _ h => by cases h) t3 (fun h => by cases h) hk0 hk1 hkk0 hkk1 (by simp [refKind]) hz hz hk
    (by rw [clamp_i hz, clamp_i hk, hkn, e0]; omega)
    (by rw [clamp_i hz, clamp_i hk, hkn, e0]; show ¬ _ > ((arrV E.2.1.1 n (fun j => .int (g j))).slots.size : Int); rw [arrV_size]; omega)
    (fun vm₁ _ j hj => by
      have e : src.slots.getD ((0 : Int32).toNatClampNeg + j) .null = .int (sT i ((0 : Int32).toNatClampNeg + j)) := by
        rw [Array.getD_eq_getD_getElem?, hv _ (by rw [e0]; rw [hkn] at hj; omega)]
        rfl
      rw [e]
      exact ⟨rfl, trivial⟩)
    (g := F0 m pc ls (.int k :: .int 0 :: .ref a :: .int 0 :: .ref (E.2.2 i) :: rest)) rfl (by rw [hml]; exact hsz) (rest := rest) rfl (by rw [hb]; exact hdg) hframes (by show 2 * 0 + _ + _ ≤ _; omega)
  have e1 : copied src (vp_cell E.2.1.1 (n, .inl g)) 0 0 k = vp_cell E.2.1.1 (n, .inl (va_cpy (sT i) g (0 : Int32).toNatClampNeg (0 : Int32).toNatClampNeg k.toNatClampNeg)) := va_copiedX (fun z => .int z) src E.2.1.1 (sT i) g hv (by rw [e0, hkn]; omega)
  rw [e1] at X' step
  have hl : a < H.size := (Array.getElem?_eq_some_iff.mp hc1).1
  generalize hN : (vp_cell E.2.1.1 (n, .inl (va_cpy (sT i) g (0 : Int32).toNatClampNeg (0 : Int32).toNatClampNeg k.toNatClampNeg))) = nc at X' step
  have hheap : ((T.setVm vm').setCell a nc).heap = H.setIfInBounds a nc := by rw [← hT]; rfl
  have oq : ∀ q : Nat, q ≠ a → (H.setIfInBounds a nc)[q]? = H[q]? := fun q hq => by simp [Array.getElem?_setIfInBounds, Ne.symm hq]
  have at1 : (H.setIfInBounds a nc)[a]? = some (vp_cell E.2.1.1 (n, .inl (va_cpy (sT i) g (0 : Int32).toNatClampNeg (0 : Int32).toNatClampNeg k.toNatClampNeg))) := by rw [hN]; simp [Array.getElem?_setIfInBounds, hl]
  have mk : ∀ L : List Loc, va_S A s.heap (H.setIfInBounds a nc) L → Wd E A s (ws.set q1 (a, .inl (E.2.1.1, n, .inl (sT i)))) (H.setIfInBounds a nc) L := by
    intro L hSL
    have w1 : Wd E A s (ws.set q1 (a, .inl (E.2.1.1, n, .inl (va_cpy (sT i) g (0 : Int32).toNatClampNeg (0 : Int32).toNatClampNeg k.toNatClampNeg)))) (H.setIfInBounds a nc) L := ⟨hP.set hD ha1 at1 oq, hD.set ha1, hSL⟩
    have hq : q1 < ws.length := (List.getElem?_eq_some_iff.mp ha1).1
    have w2 := w1.arr q1 (sT i) (List.getElem?_set_self hq) (fun j hj => by
      show va_cpy (sT i) g 0 0 k.toNatClampNeg j = sT i j
      rw [pk_cpy_in (Nat.zero_le j) (by rw [hkn]; show j < 0 + n; omega)]
      show sT i (0 + (j - 0)) = sT i j
      rw [Nat.zero_add, Nat.sub_zero])
    rw [List.set_set] at w2
    exact w2
  obtain ⟨t, a1, b1⟩ := kk _ _ (mk _ ⟨by simp; exact hS.1, fun q g1 g2 => by
      rw [oq q (fun e => g2 (by rw [e]; exact hD.2 q1 _ ha1))]
      exact hS.2.1 q g1 g2, fun q hq => by
      rcases List.mem_append.mp hq with h | h
      · exact hS.2.2 q h
      · obtain ⟨z, -, hz⟩ := List.mem_map.mp h
        rw [← hz]
        exact hD.2 q1 _ ha1⟩) _ hheap X'
  exact ⟨t, step t a1, b1⟩
end RT

def fJ7_fill12 (f : N1) (x : Int32) : N1 := fun _ => x
theorem dJ7_fill_53178_0 : decode cJ7_fill_53178 0 = .ok (.iconst 0, 1) := by decide +kernel
theorem dJ7_fill_53178_1 : decode cJ7_fill_53178 1 = .ok (.istore_n 2, 1) := by decide +kernel
theorem dJ7_fill_53178_2 : decode cJ7_fill_53178 2 = .ok (.aload_n 0, 1) := by decide +kernel
theorem dJ7_fill_53178_3 : decode cJ7_fill_53178 3 = .ok (.arraylength, 1) := by decide +kernel
theorem dJ7_fill_53178_4 : decode cJ7_fill_53178 4 = .ok (.istore_n 3, 1) := by decide +kernel
theorem dJ7_fill_53178_5 : decode cJ7_fill_53178 5 = .ok (.iload_n 2, 1) := by decide +kernel
theorem dJ7_fill_53178_6 : decode cJ7_fill_53178 6 = .ok (.iload_n 3, 1) := by decide +kernel
theorem dJ7_fill_53178_7 : decode cJ7_fill_53178 7 = .ok (.if_icmp .ge 13, 3) := by decide +kernel
theorem dJ7_fill_53178_10 : decode cJ7_fill_53178 10 = .ok (.aload_n 0, 1) := by decide +kernel
theorem dJ7_fill_53178_11 : decode cJ7_fill_53178 11 = .ok (.iload_n 2, 1) := by decide +kernel
theorem dJ7_fill_53178_12 : decode cJ7_fill_53178 12 = .ok (.iload_n 1, 1) := by decide +kernel
theorem dJ7_fill_53178_13 : decode cJ7_fill_53178 13 = .ok (.iastore, 1) := by decide +kernel
theorem dJ7_fill_53178_14 : decode cJ7_fill_53178 14 = .ok (.iinc 2 1, 3) := by decide +kernel
theorem dJ7_fill_53178_17 : decode cJ7_fill_53178 17 = .ok (.goto (-12), 3) := by decide +kernel
theorem dJ7_fill_53178_20 : decode cJ7_fill_53178 20 = .ok (.return_, 1) := by decide +kernel
theorem ax_73 {E : Ev} {a0 : Nat} {σ0 : N1} {i x : Int32} : (wAr E a0 12 σ0).set 0 (a0, .inl (E.2.1.1, 12, .inl (upd (σ0) i.toNatClampNeg x))) = wAr E a0 12 (upd σ0 i.toNatClampNeg x) := rfl
set_option maxHeartbeats 4000000 in
set_option maxRecDepth 100000 in
theorem kJ7_fill12 (l : Launch) (E : Ev) (a : Nat) (f : N1) (x : Int32) : KQ l yJ7_fill_53178 cJ7_fill_53178 4 none 0 0 E [.ref a, .int x] (wAr E a 12 f) (QV E (wAr E a 12 f) (wAr E a 12 (fJ7_fill12 f x))) := by
  refine KQ.mk RJ7 rfl (by decide +kernel) (Nat.le_of_ble_eq_true rfl) ?_
  intro p e s m below meth c ls X hr w hl
  have hx := X.1
  have hb := X.2.1
  have hl : lv_has ls 4 [(0, .ref a), (1, .int x)] := hl
  refine lv_iconst (v := 0) hx hb dJ7_fill_53178_0 (by decide) ?_
  refine lv_istore_n (lv' := [(2, .int 0), (0, .ref a), (1, .int x)]) hx hb dJ7_fill_53178_1 rfl hl (by decide) rfl (fun ls hl => ?_)
  refine lv_aload_n hx hb dJ7_fill_53178_2 rfl (lv_at hl 1 rfl) ?_
  refine r_alen X w 0 rfl dJ7_fill_53178_3 ?_
  refine lv_istore_n (lv' := [(3, .int (Int32.ofNat 12)), (2, .int 0), (0, .ref a), (1, .int x)]) hx hb dJ7_fill_53178_4 rfl hl (by decide) rfl (fun ls hl => ?_)
  rw [show wAr E a 12 f = wAr E a 12 (cpN (fun _ => x) f 0) by rw [cpN_0]] at w
  have loop : ∀ (n k : Nat), k + n = 12 → ∀ (H : Heap) (locs : List Loc), Wd E (hB (wAr E a 12 f)) s (wAr E a 12 (cpN (fun _ => x) f k)) H locs → ∀ (ls : Array Slot), lv_has ls 4 [(3, .int (Int32.ofNat 12)), (2, .int (nI k)), (0, .ref a), (1, .int x)] → W p l e { frames := 0, cells := 0, slots := 0, locals := 0 } s m (([.ref a, .int x] : List Value)).toArray below meth c H locs 0 0 (MQ below (QV E (wAr E a 12 f) (wAr E a 12 (fJ7_fill12 f x))) (([.ref a, .int x] : List Value)).toArray s 0 0 (hB (wAr E a 12 f))) (F0 m 5 ls []) := by
    intro n
    induction n with
    | zero =>
      intro k hk_k H locs w ls hl
      obtain rfl : k = 12 := by omega
      refine lv_iload_n hx hb dJ7_fill_53178_5 rfl (lv_at hl 1 rfl) ?_
      refine lv_iload_n hx hb dJ7_fill_53178_6 rfl (lv_at hl 0 rfl) ?_
      refine lv_icmp_ge (tgt := 20) hx hb dJ7_fill_53178_7 (by decide) (fun _ => ?_) (fun h => absurd (by decide : Int32.ofNat 12 ≤ nI 12) h)
      have w := w.arr 0 (fun _ => x) rfl (fun q hq => by simp [cpN, hq])
      have hq : fJ7_fill12 f x = ((fun _ => x)) := rfl
      rw [hq]
      exact r_vret X w hr dJ7_fill_53178_20
    | succ n ih =>
      intro k hk_k H locs w ls hl
      have hkN : k < 12 := by omega
      refine lv_iload_n hx hb dJ7_fill_53178_5 rfl (lv_at hl 1 rfl) ?_
      refine lv_iload_n hx hb dJ7_fill_53178_6 rfl (lv_at hl 0 rfl) ?_
      refine lv_icmp_ge (tgt := 20) hx hb dJ7_fill_53178_7 (by decide) (fun h => absurd h (nI_ge (b := 12) hkN (by decide))) (fun _ => ?_)
      refine lv_aload_n hx hb dJ7_fill_53178_10 rfl (lv_at hl 2 rfl) ?_
      refine lv_iload_n hx hb dJ7_fill_53178_11 rfl (lv_at hl 1 rfl) ?_
      refine lv_iload_n hx hb dJ7_fill_53178_12 rfl (lv_at hl 3 rfl) ?_
      refine r_iast X w (wAr E a 12 (upd (cpN (fun _ => x) f k) (nI k).toNatClampNeg x)) 0 rfl (vp_in_nI hkN (by decide)) (ax_73 (E := E)) dJ7_fill_53178_13 (fun H locs w => ?_)
      refine lv_iinc (v := (nI k) + 1) (lv' := [(2, .int ((nI k) + 1)), (3, .int (Int32.ofNat 12)), (0, .ref a), (1, .int x)]) hx hb dJ7_fill_53178_14 hl (k := 1) rfl (by first | rfl | decide) (by decide) rfl (fun ls hl => ?_)
      refine lv_goto (tgt := 5) hx hb dJ7_fill_53178_17 (by decide) ?_
      have e0 : nI k + 1 = nI (k + 1) := nI_1 k
      rw [e0] at hl
      have e1 : upd (cpN (fun _ => x) f k) (nI k).toNatClampNeg x = cpN (fun _ => x) f (k + 1) := cpN_succ (fun _ => x) f (by omega)
      rw [e1] at w
      exact ih (k + 1) (by omega) _ _ w ls (lv_sub hl [1, 0, 2, 3] rfl)
  exact loop 12 0 (by omega) _ _ w ls (lv_sub hl [0, 1, 2, 3] rfl)
def fJ7_fill61 (f : N1) (x : Int32) : N1 := fun _ => x
theorem ax_74 {E : Ev} {a0 : Nat} {σ0 : N1} {i x : Int32} : (wAr E a0 61 σ0).set 0 (a0, .inl (E.2.1.1, 61, .inl (upd (σ0) i.toNatClampNeg x))) = wAr E a0 61 (upd σ0 i.toNatClampNeg x) := rfl
set_option maxHeartbeats 4000000 in
set_option maxRecDepth 100000 in
theorem kJ7_fill61 (l : Launch) (E : Ev) (a : Nat) (f : N1) (x : Int32) : KQ l yJ7_fill_53178 cJ7_fill_53178 4 none 0 0 E [.ref a, .int x] (wAr E a 61 f) (QV E (wAr E a 61 f) (wAr E a 61 (fJ7_fill61 f x))) := by
  refine KQ.mk RJ7 rfl (by decide +kernel) (Nat.le_of_ble_eq_true rfl) ?_
  intro p e s m below meth c ls X hr w hl
  have hx := X.1
  have hb := X.2.1
  have hl : lv_has ls 4 [(0, .ref a), (1, .int x)] := hl
  refine lv_iconst (v := 0) hx hb dJ7_fill_53178_0 (by decide) ?_
  refine lv_istore_n (lv' := [(2, .int 0), (0, .ref a), (1, .int x)]) hx hb dJ7_fill_53178_1 rfl hl (by decide) rfl (fun ls hl => ?_)
  refine lv_aload_n hx hb dJ7_fill_53178_2 rfl (lv_at hl 1 rfl) ?_
  refine r_alen X w 0 rfl dJ7_fill_53178_3 ?_
  refine lv_istore_n (lv' := [(3, .int (Int32.ofNat 61)), (2, .int 0), (0, .ref a), (1, .int x)]) hx hb dJ7_fill_53178_4 rfl hl (by decide) rfl (fun ls hl => ?_)
  rw [show wAr E a 61 f = wAr E a 61 (cpN (fun _ => x) f 0) by rw [cpN_0]] at w
  have loop : ∀ (n k : Nat), k + n = 61 → ∀ (H : Heap) (locs : List Loc), Wd E (hB (wAr E a 61 f)) s (wAr E a 61 (cpN (fun _ => x) f k)) H locs → ∀ (ls : Array Slot), lv_has ls 4 [(3, .int (Int32.ofNat 61)), (2, .int (nI k)), (0, .ref a), (1, .int x)] → W p l e { frames := 0, cells := 0, slots := 0, locals := 0 } s m (([.ref a, .int x] : List Value)).toArray below meth c H locs 0 0 (MQ below (QV E (wAr E a 61 f) (wAr E a 61 (fJ7_fill61 f x))) (([.ref a, .int x] : List Value)).toArray s 0 0 (hB (wAr E a 61 f))) (F0 m 5 ls []) := by
    intro n
    induction n with
    | zero =>
      intro k hk_k H locs w ls hl
      obtain rfl : k = 61 := by omega
      refine lv_iload_n hx hb dJ7_fill_53178_5 rfl (lv_at hl 1 rfl) ?_
      refine lv_iload_n hx hb dJ7_fill_53178_6 rfl (lv_at hl 0 rfl) ?_
      refine lv_icmp_ge (tgt := 20) hx hb dJ7_fill_53178_7 (by decide) (fun _ => ?_) (fun h => absurd (by decide : Int32.ofNat 61 ≤ nI 61) h)
      have w := w.arr 0 (fun _ => x) rfl (fun q hq => by simp [cpN, hq])
      have hq : fJ7_fill61 f x = ((fun _ => x)) := rfl
      rw [hq]
      exact r_vret X w hr dJ7_fill_53178_20
    | succ n ih =>
      intro k hk_k H locs w ls hl
      have hkN : k < 61 := by omega
      refine lv_iload_n hx hb dJ7_fill_53178_5 rfl (lv_at hl 1 rfl) ?_
      refine lv_iload_n hx hb dJ7_fill_53178_6 rfl (lv_at hl 0 rfl) ?_
      refine lv_icmp_ge (tgt := 20) hx hb dJ7_fill_53178_7 (by decide) (fun h => absurd h (nI_ge (b := 61) hkN (by decide))) (fun _ => ?_)
      refine lv_aload_n hx hb dJ7_fill_53178_10 rfl (lv_at hl 2 rfl) ?_
      refine lv_iload_n hx hb dJ7_fill_53178_11 rfl (lv_at hl 1 rfl) ?_
      refine lv_iload_n hx hb dJ7_fill_53178_12 rfl (lv_at hl 3 rfl) ?_
      refine r_iast X w (wAr E a 61 (upd (cpN (fun _ => x) f k) (nI k).toNatClampNeg x)) 0 rfl (vp_in_nI hkN (by decide)) (ax_74 (E := E)) dJ7_fill_53178_13 (fun H locs w => ?_)
      refine lv_iinc (v := (nI k) + 1) (lv' := [(2, .int ((nI k) + 1)), (3, .int (Int32.ofNat 61)), (0, .ref a), (1, .int x)]) hx hb dJ7_fill_53178_14 hl (k := 1) rfl (by first | rfl | decide) (by decide) rfl (fun ls hl => ?_)
      refine lv_goto (tgt := 5) hx hb dJ7_fill_53178_17 (by decide) ?_
      have e0 : nI k + 1 = nI (k + 1) := nI_1 k
      rw [e0] at hl
      have e1 : upd (cpN (fun _ => x) f k) (nI k).toNatClampNeg x = cpN (fun _ => x) f (k + 1) := cpN_succ (fun _ => x) f (by omega)
      rw [e1] at w
      exact ih (k + 1) (by omega) _ _ w ls (lv_sub hl [1, 0, 2, 3] rfl)
  exact loop 61 0 (by omega) _ _ w ls (lv_sub hl [0, 1, 2, 3] rfl)
