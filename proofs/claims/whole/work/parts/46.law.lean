/-! the law: its loop, from its entry to its end (printed by wip/whole/gen/p46.py) -/
section LL
variable {p : Program} {l : Launch} {e : Env} {s : State} {m : MethodId} {b L : Nat} {xs : Nat → Int32} {below : List Frame} {meth : Method} {c : Code} {E : Ev} {h k j : Nat} {a1 a2 a3 ah a5 am : Nat → Nat} {hh : Nat → Nat → Nat}
theorem dL_law_18 : decode code 18 = .ok (.iload_n 3, 1) := by decide +kernel
theorem dL_law_19 : decode code 19 = .ok (.aload_n 0, 1) := by decide +kernel
theorem dL_law_20 : decode code 20 = .ok (.arraylength, 1) := by decide +kernel
theorem dL_law_21 : decode code 21 = .ok (.bipush 6, 2) := by decide +kernel
theorem dL_law_23 : decode code 23 = .ok (.isub, 1) := by decide +kernel
theorem dL_law_24 : decode code 24 = .ok (.if_icmp .gt 815, 3) := by decide +kernel
theorem dL_law_27 : decode code 27 = .ok (.aload_n 0, 1) := by decide +kernel
theorem dL_law_28 : decode code 28 = .ok (.iload_n 3, 1) := by decide +kernel
theorem dL_law_29 : decode code 29 = .ok (.iaload, 1) := by decide +kernel
theorem dL_law_30 : decode code 30 = .ok (.bipush 31, 2) := by decide +kernel
theorem dL_law_32 : decode code 32 = .ok (.iand, 1) := by decide +kernel
theorem dL_law_33 : decode code 33 = .ok (.tableswitch 800 0 20 #[99, 132, 145, 178, 201, 224, 257, 320, 343, 368, 381, 394, 407, 420, 453, 486, 519, 582, 665, 734, 777], 99) := by decide +kernel
theorem dL_law_833 : decode code 833 = .ok (.iinc 3 6, 3) := by decide +kernel
theorem dL_law_836 : decode code 836 = .ok (.goto (-818), 3) := by decide +kernel
theorem dL_law_839 : decode code 839 = .ok (.iconst 1, 1) := by decide +kernel
theorem dL_law_840 : decode code 840 = .ok (.ireturn, 1) := by decide +kernel
set_option maxHeartbeats 4000000 in
set_option maxRecDepth 100000 in
theorem law_loop (X : Cx p m meth c code 8 s #[Value.ref b] RL E (lwA s)) (hX : va_X b L xs s s.heap) (hbl : b < s.heap.size) (hL : L ≤ 3072) (hr : meth.sig.returnType = ret) (hlocks : meth.locks = false) : ∀ (n i : Nat), L < i + n → i ≤ L → ∀ (hs : Int32) (σ σn σr : N2) (ny : Int32) (o : Nat) (η : Nat → N2) (t : N2) (z : N1) (sp : UInt32) (d : N1) (μ : N2) (sp2 : UInt32) (H : Heap) (locs : List Loc) (ls : Array Slot), REL hs σ σn ny o η t μ → Wd E (lwA s) s (wHb h (a1 0) (a2 0) (a3 0) (ah 0) (a5 0) k hs ++ (wSt E a1 σ ++ (wSt E a2 σn ++ (wSt E a3 σr ++ (wHs E ah hh ny o η ++ (wTx E a5 t ++ (wSh k j z sp ++ (wWk j d ++ wMd E am μ sp2)))))))) H locs → lv_has ls 8 [(3, .int (nI i)), (2, .ref (am 0)), (1, .ref h), (0, .ref b)] → W p l e room_1 s m #[Value.ref b] below meth c H locs 82 1976 (lw_Z below #[Value.ref b] s) (F0 m 18 ls []) := by
  have hx := X.1
  have hb := X.2.1
  have hbA : ¬ lwA s b := lwA_out s b hbl
  intro n
  induction n with
  | zero => intro i h1 h2; exact absurd h1 (by omega)
  | succ n ih =>
    intro i h1 h2 hs σ σn σr ny o η t z sp d μ sp2 H locs ls R w hl
    refine lv_iload_n hx hb dL_law_18 rfl (lv_at hl 0 rfl) ?_
    refine lv_aload_n hx hb dL_law_19 rfl (lv_at hl 3 rfl) ?_
    refine va_slen hx hb hX hbl hbA w.2.2 dL_law_20 ?_
    refine lv_bipush (v := 6) hx hb dL_law_21 (by decide) ?_
    refine lv_isub hx hb dL_law_23 ?_
    refine lv_icmp_gt (tgt := 839) hx hb dL_law_24 (by decide) (fun c24_1 => ?_) (fun c24_1 => ?_)
    · refine lv_iconst (v := 1) hx hb dL_law_839 (by decide) ?_
      refine va_forget (fun q hq => w.2.2.2.2 q hq) ?_
      refine W.widen (k := 600000) (n := 7302250) (Nat.le_of_ble_eq_true rfl) (Nat.le_of_ble_eq_true rfl) ?_
      exact lw_ret (d0 := s.drawn) (Drawn.sameBut.refl s.drawn lw_cs) hx hb hr hlocks dL_law_840
    · have hi : i + 6 ≤ L := by
        by_cases q : L < i + 6
        · exact absurd ((sx_end h2 hL).mpr q) c24_1
        · omega
      have next : NX p l e s m b below meth c E h k j a1 a2 a3 ah a5 am hh i := by
        unfold NX
        intro hs σ σn σr ny o η t z sp d μ sp2 H locs ls R w hl
        refine lv_iinc (v := (nI i) + 6) (lv' := [(3, .int ((nI i) + 6)), (2, .ref (am 0)), (1, .ref h), (0, .ref b)]) hx hb dL_law_833 hl (k := 0) rfl (by first | rfl | decide) (by decide) rfl (fun ls hl => ?_)
        refine lv_goto (tgt := 18) hx hb dL_law_836 (by decide) ?_
        rw [sx_six] at hl
        exact ih (i + 6) (by omega) (by omega) _ _ _ _ _ _ _ _ _ _ _ _ _ _ _ _ R w hl
      refine lv_aload_n hx hb dL_law_27 rfl (lv_at hl 3 rfl) ?_
      refine lv_iload_n hx hb dL_law_28 rfl (lv_at hl 0 rfl) ?_
      refine va_sld hx hb hX hbl hbA w.2.2 (sx_0 hi hL) dL_law_29 ?_
      refine lv_bipush (v := 31) hx hb dL_law_30 (by decide) ?_
      refine lv_iand hx hb dL_law_32 ?_
      by_cases c33_2 : ((xs (nI i).toNatClampNeg) &&& 31) = 0
      · refine lv_tableIn (off := 99) (tgt := 132) hx hb dL_law_33 (by rw [c33_2]; decide) (by rw [c33_2]; decide) (by rw [c33_2]; rfl) (by decide) ?_
        exact law_put X hX hbl hL hi R w (lv_sub hl [0, 1, 2, 3] rfl) next
      · by_cases c33_3 : ((xs (nI i).toNatClampNeg) &&& 31) = 1
        · refine lv_tableIn (off := 132) (tgt := 165) hx hb dL_law_33 (by rw [c33_3]; decide) (by rw [c33_3]; decide) (by rw [c33_3]; rfl) (by decide) ?_
          exact law_putAll X hX hbl hL hi R w (lv_sub hl [0, 1, 2, 3] rfl) next
        · by_cases c33_4 : ((xs (nI i).toNatClampNeg) &&& 31) = 2
          · refine lv_tableIn (off := 145) (tgt := 178) hx hb dL_law_33 (by rw [c33_4]; decide) (by rw [c33_4]; decide) (by rw [c33_4]; rfl) (by decide) ?_
            exact law_move X hX hbl hL hi R w (lv_sub hl [0, 1, 2, 3] rfl) next
          · by_cases c33_5 : ((xs (nI i).toNatClampNeg) &&& 31) = 3
            · refine lv_tableIn (off := 178) (tgt := 211) hx hb dL_law_33 (by rw [c33_5]; decide) (by rw [c33_5]; decide) (by rw [c33_5]; rfl) (by decide) ?_
              exact law_takeOff X hX hbl hL hi R w (lv_sub hl [0, 1, 2, 3] rfl) next
            · by_cases c33_6 : ((xs (nI i).toNatClampNeg) &&& 31) = 4
              · refine lv_tableIn (off := 201) (tgt := 234) hx hb dL_law_33 (by rw [c33_6]; decide) (by rw [c33_6]; decide) (by rw [c33_6]; rfl) (by decide) ?_
                exact law_setPots X hX hbl hL hi R w (lv_sub hl [0, 1, 2, 3] rfl) next
              · by_cases c33_7 : ((xs (nI i).toNatClampNeg) &&& 31) = 5
                · refine lv_tableIn (off := 224) (tgt := 257) hx hb dL_law_33 (by rw [c33_7]; decide) (by rw [c33_7]; decide) (by rw [c33_7]; rfl) (by decide) ?_
                  exact law_set X hX hbl hL hi R w (lv_sub hl [0, 1, 2, 3] rfl) next
                · by_cases c33_8 : ((xs (nI i).toNatClampNeg) &&& 31) = 6
                  · refine lv_tableIn (off := 257) (tgt := 290) hx hb dL_law_33 (by rw [c33_8]; decide) (by rw [c33_8]; decide) (by rw [c33_8]; rfl) (by decide) ?_
                    exact law_shoot X hX hbl hL hi R w (lv_sub hl [0, 1, 2, 3] rfl) next
                  · by_cases c33_9 : ((xs (nI i).toNatClampNeg) &&& 31) = 7
                    · refine lv_tableIn (off := 320) (tgt := 353) hx hb dL_law_33 (by rw [c33_9]; decide) (by rw [c33_9]; decide) (by rw [c33_9]; rfl) (by decide) ?_
                      exact law_pass X hX hbl hL hi R w (lv_sub hl [0, 1, 2, 3] rfl) next
                    · by_cases c33_10 : ((xs (nI i).toNatClampNeg) &&& 31) = 8
                      · refine lv_tableIn (off := 343) (tgt := 376) hx hb dL_law_33 (by rw [c33_10]; decide) (by rw [c33_10]; decide) (by rw [c33_10]; rfl) (by decide) ?_
                        exact law_type X hX hbl hL hi R w (lv_sub hl [0, 1, 2, 3] rfl) next
                      · by_cases c33_11 : ((xs (nI i).toNatClampNeg) &&& 31) = 9
                        · refine lv_tableIn (off := 368) (tgt := 401) hx hb dL_law_33 (by rw [c33_11]; decide) (by rw [c33_11]; decide) (by rw [c33_11]; rfl) (by decide) ?_
                          exact law_clearText X hX hbl hL hi R w (lv_sub hl [0, 1, 2, 3] rfl) next
                        · by_cases c33_12 : ((xs (nI i).toNatClampNeg) &&& 31) = 10
                          · refine lv_tableIn (off := 381) (tgt := 414) hx hb dL_law_33 (by rw [c33_12]; decide) (by rw [c33_12]; decide) (by rw [c33_12]; rfl) (by decide) ?_
                            exact law_undo X hX hbl hL hi R w (lv_sub hl [0, 1, 2, 3] rfl) next
                          · by_cases c33_13 : ((xs (nI i).toNatClampNeg) &&& 31) = 11
                            · refine lv_tableIn (off := 394) (tgt := 427) hx hb dL_law_33 (by rw [c33_13]; decide) (by rw [c33_13]; decide) (by rw [c33_13]; rfl) (by decide) ?_
                              exact law_keep X hX hbl hL hi R w (lv_sub hl [0, 1, 2, 3] rfl) next
                            · by_cases c33_14 : ((xs (nI i).toNatClampNeg) &&& 31) = 12
                              · refine lv_tableIn (off := 407) (tgt := 440) hx hb dL_law_33 (by rw [c33_14]; decide) (by rw [c33_14]; decide) (by rw [c33_14]; rfl) (by decide) ?_
                                exact law_restore X hX hbl hL hi R w (lv_sub hl [0, 1, 2, 3] rfl) next
                              · by_cases c33_15 : ((xs (nI i).toNatClampNeg) &&& 31) = 13
                                · refine lv_tableIn (off := 420) (tgt := 453) hx hb dL_law_33 (by rw [c33_15]; decide) (by rw [c33_15]; decide) (by rw [c33_15]; rfl) (by decide) ?_
                                  exact law_cell X hX hbl hL hi R w (lv_sub hl [0, 1, 2, 3] rfl) next
                                · by_cases c33_16 : ((xs (nI i).toNatClampNeg) &&& 31) = 14
                                  · refine lv_tableIn (off := 453) (tgt := 486) hx hb dL_law_33 (by rw [c33_16]; decide) (by rw [c33_16]; decide) (by rw [c33_16]; rfl) (by decide) ?_
                                    exact law_ofCell X hX hbl hL hi R w (lv_sub hl [0, 1, 2, 3] rfl) next
                                  · by_cases c33_17 : ((xs (nI i).toNatClampNeg) &&& 31) = 15
                                    · refine lv_tableIn (off := 486) (tgt := 519) hx hb dL_law_33 (by rw [c33_17]; decide) (by rw [c33_17]; decide) (by rw [c33_17]; rfl) (by decide) ?_
                                      exact law_ball X hX hbl hL hi R w (lv_sub hl [0, 1, 2, 3] rfl) next
                                    · by_cases c33_18 : ((xs (nI i).toNatClampNeg) &&& 31) = 16
                                      · refine lv_tableIn (off := 519) (tgt := 552) hx hb dL_law_33 (by rw [c33_18]; decide) (by rw [c33_18]; decide) (by rw [c33_18]; rfl) (by decide) ?_
                                        exact law_would X hX hbl hL hi R w (lv_sub hl [0, 1, 2, 3] rfl) next
                                      · by_cases c33_19 : ((xs (nI i).toNatClampNeg) &&& 31) = 17
                                        · refine lv_tableIn (off := 582) (tgt := 615) hx hb dL_law_33 (by rw [c33_19]; decide) (by rw [c33_19]; decide) (by rw [c33_19]; rfl) (by decide) ?_
                                          exact law_speedLeft X hX hbl hL hi R w (lv_sub hl [0, 1, 2, 3] rfl) next
                                        · by_cases c33_20 : ((xs (nI i).toNatClampNeg) &&& 31) = 18
                                          · refine lv_tableIn (off := 665) (tgt := 698) hx hb dL_law_33 (by rw [c33_20]; decide) (by rw [c33_20]; decide) (by rw [c33_20]; rfl) (by decide) ?_
                                            exact law_along X hX hbl hL hi R w (lv_sub hl [0, 1, 2, 3] rfl) next
                                          · by_cases c33_21 : ((xs (nI i).toNatClampNeg) &&& 31) = 19
                                            · refine lv_tableIn (off := 734) (tgt := 767) hx hb dL_law_33 (by rw [c33_21]; decide) (by rw [c33_21]; decide) (by rw [c33_21]; rfl) (by decide) ?_
                                              exact law_best X hX hbl hL hi R w (lv_sub hl [0, 1, 2, 3] rfl) next
                                            · by_cases c33_22 : ((xs (nI i).toNatClampNeg) &&& 31) = 20
                                              · refine lv_tableIn (off := 777) (tgt := 810) hx hb dL_law_33 (by rw [c33_22]; decide) (by rw [c33_22]; decide) (by rw [c33_22]; rfl) (by decide) ?_
                                                exact law_count X hX hbl hL hi R w (lv_sub hl [0, 1, 2, 3] rfl) next
                                              · refine lv_tableOut (tgt := 833) hx hb dL_law_33 (tab_out_20 c33_2 c33_3 c33_4 c33_5 c33_6 c33_7 c33_8 c33_9 c33_10 c33_11 c33_12 c33_13 c33_14 c33_15 c33_16 c33_17 c33_18 c33_19 c33_20 c33_21 c33_22) (by decide) ?_
                                                exact next _ _ _ _ _ _ _ _ _ _ _ _ _ _ _ _ R w (lv_sub hl [0, 1, 2, 3] rfl)
end LL
theorem dL_law_0 : decode code 0 = .ok (.new 7, 3) := by decide +kernel
theorem dL_law_3 : decode code 3 = .ok (.dup, 1) := by decide +kernel
theorem dL_law_4 : decode code 4 = .ok (.invokespecial 9, 3) := by decide +kernel
theorem dL_law_7 : decode code 7 = .ok (.astore_n 1, 1) := by decide +kernel
theorem dL_law_8 : decode code 8 = .ok (.new 10, 3) := by decide +kernel
theorem dL_law_11 : decode code 11 = .ok (.dup, 1) := by decide +kernel
theorem dL_law_12 : decode code 12 = .ok (.invokespecial 12, 3) := by decide +kernel
theorem dL_law_15 : decode code 15 = .ok (.astore_n 2, 1) := by decide +kernel
theorem dL_law_16 : decode code 16 = .ok (.iconst 0, 1) := by decide +kernel
theorem dL_law_17 : decode code 17 = .ok (.istore_n 3, 1) := by decide +kernel
set_option maxHeartbeats 4000000 in
set_option maxRecDepth 100000 in
/-- YOUR PART: from the entry, for every script of at most 3072 ints, the law comes to its end with true -/
theorem whole_start {p : Program} {e : Env} {s : State} {m : MethodId} {below : List Frame} {meth : Method} {c : Code} (l : Launch) (hflags : l.flags = flags0) {b L : Nat} {xs : Nat → Int32} (hL : L ≤ 3072) (C0 : lw_At p s m meth c b L xs) : W p l e room_1 s m #[Value.ref b] below meth c s.heap [] 0 0 (lw_Z below #[Value.ref b] s) (entryFrame m ([Value.ref b] : List Value).toArray 8) := by
  obtain ⟨hx, hb, hr, hml, hown, hts, hX, hbl, hlocks, hgv⟩ := id C0
  obtain ⟨E, hK, hS⟩ := law_env hts hgv
  have hAO := law_ao hts
  have X : Cx p m meth c code 8 s #[Value.ref b] RL E (lwA s) := ⟨hx, hb, hml, hown, fun w h => hts w (T0_tbl w h), hK, hS, law_nl hts, hlocks⟩
  have hA : ∀ q : Nat, s.heap.size ≤ q → lwA s q := fun _ h => h
  have w : Wd E (lwA s) s [] s.heap [] := ⟨fun k q h => by simp at h, ⟨fun i j p q h => by simp at h, fun k q h => by simp at h⟩, va_S.rf⟩
  have hl := lv_entry ([.ref b]) (n := 8) (Nat.le_of_ble_eq_true rfl)
  rw [lg_entry_eq]
  generalize (lg_sl ([.ref b]) ++ List.replicate (8 - (lg_sl ([.ref b])).length) Slot.unset).toArray = ls at hl ⊢
  have hl : lv_has ls 8 [(0, .ref b)] := hl
  have hfsA : ∀ j, j < 7 → defaultValue (tyX6 j) = vp_V [.null, .null, .null, .null, .null, .null, .int 0] j := by
    intro j hj
    match j, hj with
    | 0, _ => rfl
    | 1, _ => rfl
    | 2, _ => rfl
    | 3, _ => rfl
    | 4, _ => rfl
    | 5, _ => rfl
    | 6, _ => rfl
  have hfsB : ∀ j, j < 25 → defaultValue (tyX7 j) = vp_V [.null, .null, .null, .null, .int 0, .null, .int 0, .null, .null, .null, .int 0, .int 0, .int 0, .int 0, .float 0, .int 0, .int 0, .int 0, .int 0, .null, .int 0, .int 0, .int 0, .int 0, .int 0] j := by
    intro j hj
    match j, hj with
    | 0, _ => rfl
    | 1, _ => rfl
    | 2, _ => rfl
    | 3, _ => rfl
    | 4, _ => rfl
    | 5, _ => rfl
    | 6, _ => rfl
    | 7, _ => rfl
    | 8, _ => rfl
    | 9, _ => rfl
    | 10, _ => rfl
    | 11, _ => rfl
    | 12, _ => rfl
    | 13, _ => rfl
    | 14, _ => rfl
    | 15, _ => rfl
    | 16, _ => rfl
    | 17, _ => rfl
    | 18, _ => rfl
    | 19, _ => rfl
    | 20, _ => rfl
    | 21, _ => rfl
    | 22, _ => rfl
    | 23, _ => rfl
    | 24, _ => rfl
    | j + 25, hj => exact absurd hj (by omega)
  refine r_mk0 (C := RX6) (fs := [.null, .null, .null, .null, .null, .null, .int 0]) (ce := 71) (sl := 1097) X w hA CL6 wcl_L_7 wn_X6 wi_X6 hfsA dL_law_0 dL_law_3 (Nat.le_of_ble_eq_true rfl) (Nat.le_of_ble_eq_true rfl) (fun q H w => r_runI X hAO w (kX6_init l E q) ⟨wm_L_9, wim_yX6_init, wi_X6, wc_yX6_init, by decide +kernel⟩ ⟨Nat.le_of_ble_eq_true rfl, Nat.le_of_ble_eq_true rfl⟩ _ last_at rfl hl.1 (Nat.le_of_ble_eq_true rfl) dL_law_4 ⟨Nat.le_of_ble_eq_true rfl, Nat.le_of_ble_eq_true rfl⟩) (fun h w2 H locs hK w => ?_)
  obtain ⟨a1, a2, a3, ah, hh, a5, k, j, rfl⟩ := hK
  refine lv_astore_n (lv' := [(1, .ref h), (0, .ref b)]) hx hb dL_law_7 rfl hl (by decide) rfl (fun ls hl => ?_)
  refine r_mk0 (C := RX7) (fs := [.null, .null, .null, .null, .int 0, .null, .int 0, .null, .null, .null, .int 0, .int 0, .int 0, .int 0, .float 0, .int 0, .int 0, .int 0, .int 0, .null, .int 0, .int 0, .int 0, .int 0, .int 0]) (ce := 9) (sl := 847) X w hA CL7 wcl_L_10 wn_X7 wi_X7 hfsB dL_law_8 dL_law_11 (Nat.le_of_ble_eq_true rfl) (Nat.le_of_ble_eq_true rfl) (fun q H w => r_runI X hAO w (kX7_init l E q) ⟨wm_L_12, wim_yX7_init, wi_X7, wc_yX7_init, by decide +kernel⟩ ⟨Nat.le_of_ble_eq_true rfl, Nat.le_of_ble_eq_true rfl⟩ _ last_at rfl hl.1 (Nat.le_of_ble_eq_true rfl) dL_law_12 ⟨Nat.le_of_ble_eq_true rfl, Nat.le_of_ble_eq_true rfl⟩) (fun h2 w2 H locs hK w => ?_)
  obtain ⟨am, rfl, rfl⟩ := hK
  refine lv_astore_n (lv' := [(2, .ref (am 0)), (1, .ref h), (0, .ref b)]) hx hb dL_law_15 rfl hl (by decide) rfl (fun ls hl => ?_)
  refine lv_iconst (v := 0) hx hb dL_law_16 (by decide) ?_
  refine lv_istore_n (lv' := [(3, .int 0), (2, .ref (am 0)), (1, .ref h), (0, .ref b)]) hx hb dL_law_17 rfl hl (by decide) rfl (fun ls hl => ?_)
  refine W.widen (k := 82) (n := 1976) (Nat.le_of_ble_eq_true rfl) (Nat.le_of_ble_eq_true rfl) ?_
  rw [List.nil_append, List.append_assoc, List.append_assoc, List.append_assoc, List.append_assoc, List.append_assoc, List.append_assoc, List.append_assoc] at w
  exact law_loop X hX hbl hL hr hlocks (L + 1) 0 (by omega) (Nat.zero_le _) 0 sgI sgI sgI 0 0 (fun _ => sgI) tgI zgI 0 zgI (mF 12) 0 _ _ _ REL_start w (lv_sub hl [0, 1, 2, 3] rfl)
