/-! the reference: best (printed by wip/whole/gen/p24.py) -/
theorem bank_rows {μ : N2} {sp : UInt32} : (∀ i : Nat, ¬ i = 0 → ¬ i = 9 → (fX7_bank μ sp).1 i = μ i) ∧ ∀ j : Nat, j < 2 ∨ 9 ≤ j → (fX7_bank μ sp).1 9 j = μ 9 j := by
  constructor
  · intro i h0 h9
    unfold fX7_bank
    repeat' split
    all_goals simp only [u2_row h0, u2_row h9]
  · intro j hj
    unfold fX7_bank
    repeat' split
    all_goals simp only [u2_at, u2_row (show ¬ 9 = 0 by decide), if_neg (show ¬ j = 3 by omega), if_neg (show ¬ j = 4 by omega), if_neg (show ¬ j = 8 by omega)]
theorem hit_rows {μ : N2} {sp : UInt32} {ot : Int32} : (∀ i : Nat, ¬ i = 0 → ¬ i = 9 → (fX7_hit μ sp ot).1 i = μ i) ∧ ∀ j : Nat, j < 2 ∨ 9 ≤ j ∧ ¬ j = 9 → (fX7_hit μ sp ot).1 9 j = μ 9 j := by
  constructor
  · intro i h0 h9
    unfold fX7_hit
    simp only [u2_row h0, u2_row h9]
  · intro j hj
    unfold fX7_hit
    simp only [u2_at, u2_row (show ¬ 9 = 0 by decide), if_neg (show ¬ j = 2 by omega), if_neg (show ¬ j = 4 by omega), if_neg (show ¬ j = 5 by omega), if_neg (show ¬ j = 9 by omega)]
theorem step_rows {μ : N2} {sp : UInt32} {ce : Int32} : (∀ i : Nat, ¬ i = 0 → ¬ i = 9 → (fX7_step μ sp ce).1 i = μ i) ∧ ∀ j : Nat, j < 2 ∨ 9 ≤ j → (fX7_step μ sp ce).1 9 j = μ 9 j := by
  constructor
  · intro i h0 h9
    unfold fX7_step
    repeat' split
    all_goals simp only [u2_row h0, u2_row h9]
  · intro j hj
    unfold fX7_step
    repeat' split
    all_goals simp only [u2_at, u2_row (show ¬ 9 = 0 by decide), if_neg (show ¬ j = 6 by omega), if_neg (show ¬ j = 7 by omega)]
theorem mdB_rows {μ : N2} {sp : UInt32} : (∀ i : Nat, ¬ i = 0 → ¬ i = 9 → (mdB μ sp).1 i = μ i) ∧ ∀ j : Nat, j < 2 ∨ 10 ≤ j → (mdB μ sp).1 9 j = μ 9 j := by
  unfold mdB
  repeat' split
  · exact ⟨bank_rows.1, fun j hj => bank_rows.2 j (by omega)⟩
  · exact ⟨step_rows.1, fun j hj => step_rows.2 j (by omega)⟩
  · exact ⟨hit_rows.1, fun j hj => hit_rows.2 j (by omega)⟩
theorem mdN_rows : ∀ (n : Nat) {μ : N2} {sp : UInt32}, (∀ i : Nat, ¬ i = 0 → ¬ i = 9 → (mdN n μ sp).1 i = μ i) ∧ ∀ j : Nat, j < 2 ∨ 10 ≤ j → (mdN n μ sp).1 9 j = μ 9 j := by
  intro n
  induction n with
  | zero => intro μ sp; exact ⟨fun _ _ _ => rfl, fun _ _ => rfl⟩
  | succ n ih =>
    intro μ sp
    unfold mdN
    split
    · split
      · exact ⟨fun _ _ _ => rfl, fun _ _ => rfl⟩
      · exact ⟨fun i h0 h9 => (ih.1 i h0 h9).trans (mdB_rows.1 i h0 h9), fun j hj => (ih.2 j hj).trans (mdB_rows.2 j hj)⟩
    · exact ⟨fun _ _ _ => rfl, fun _ _ => rfl⟩
/-- what a shot leaves alone -/
theorem shot_rows {μ : N2} {sp : UInt32} {bl di sg sn : Int32} : (∀ i : Nat, ¬ i = 0 → ¬ i = 9 → (fX7_shot μ sp bl di sg sn).2.1 i = μ i) ∧ ∀ j : Nat, j < 2 ∨ 10 ≤ j → (fX7_shot μ sp bl di sg sn).2.1 9 j = μ 9 j := by
  unfold fX7_shot
  constructor
  · intro i h0 h9
    refine ((mdN_rows 1000000 (μ := shI μ bl di sn)).1 i h0 h9).trans ?_
    unfold shI
    simp only [u2_row h9]
  · intro j hj
    refine ((mdN_rows 1000000 (μ := shI μ bl di sn)).2 j hj).trans ?_
    unfold shI
    simp only [u2_at, if_neg (show ¬ j = 2 by omega), if_neg (show ¬ j = 3 by omega), if_neg (show ¬ j = 4 by omega), if_neg (show ¬ j = 5 by omega), if_neg (show ¬ j = 6 by omega), if_neg (show ¬ j = 7 by omega), if_neg (show ¬ j = 8 by omega), if_neg (show ¬ j = 9 by omega)]
def cpB (μ : N2) : N2 := va_up μ 0 (fX7_copy (μ 2) (μ 0))
/-- the shots tried, from the k-th on: most, found, the state, the speed -/
def bmN (sg sn : Int32) : Nat → Nat → Int32 → Int32 → N2 → UInt32 → Int32 × Int32 × N2 × UInt32
  | 0, _, m, f, μ, sp => (m, f, μ, sp)
  | n + 1, k, m, f, μ, sp => if fX7_isBall μ sp (nI k / 6) = 0 then (if 0 ≤ m then bmN sg sn n (k + 1) m f (cpB μ) sp else bmN sg sn n (k + 1) 0 (nI k) (cpB μ) sp) else if (fX7_shot μ sp (nI k / 6) (nI k - nI k / 6 * 6) sg sn).1 ≤ m then bmN sg sn n (k + 1) m f (cpB (fX7_shot μ sp (nI k / 6) (nI k - nI k / 6 * 6) sg sn).2.1) (fX7_shot μ sp (nI k / 6) (nI k - nI k / 6 * 6) sg sn).2.2 else bmN sg sn n (k + 1) (fX7_shot μ sp (nI k / 6) (nI k - nI k / 6 * 6) sg sn).1 (nI k) (cpB (fX7_shot μ sp (nI k / 6) (nI k - nI k / 6 * 6) sg sn).2.1) (fX7_shot μ sp (nI k / 6) (nI k - nI k / 6 * 6) sg sn).2.2
def bmF (μ : N2) (sp : UInt32) (sg sn : Int32) : Int32 × Int32 × N2 × UInt32 := bmN sg sn ((6 : Int32) * μ 0 12).toNatClampNeg 0 0 (-5) (va_up μ 2 (fX7_copy (μ 0) (μ 2))) sp
def fX7_best (μ : N2) (sp : UInt32) (sg sn wh : Int32) : Int32 × N2 × UInt32 := if fX7_isStroke sg sn = 0 then ((-2), μ, sp) else if fX7_in wh.toInt64 0 2 = 0 then ((-2), μ, sp) else (if (bmF μ sp sg sn).2.1 = (-5) then (-5) else if wh = 0 then (bmF μ sp sg sn).2.1 / 6 else if wh = 1 then (bmF μ sp sg sn).2.1 - (bmF μ sp sg sn).2.1 / 6 * 6 else (bmF μ sp sg sn).1, (bmF μ sp sg sn).2.2.1, (bmF μ sp sg sn).2.2.2)
/-- what holds between the shots -/
def bJ (μ μ1 : N2) : Prop := μ1 0 = μ 0 ∧ μ1 2 = μ 0 ∧ gTab μ1
theorem bJ0 {μ : N2} (hTb : gTab μ) : bJ μ (va_up μ 2 (fX7_copy (μ 0) (μ 2))) := ⟨rfl, rfl, hTb⟩
theorem gTab_of {μ μ1 : N2} (hTb : gTab μ) (h : ∀ i : Nat, ¬ i = 0 → ¬ i = 9 → μ1 i = μ i) : gTab μ1 := by
  unfold gTab
  rw [h 5 (by decide) (by decide), h 6 (by decide) (by decide), h 7 (by decide) (by decide)]
  exact hTb
theorem bJ_s {μ μ1 : N2} {sp : UInt32} {bl di sg sn : Int32} (h : bJ μ μ1) : bJ μ (cpB (fX7_shot μ1 sp bl di sg sn).2.1) := by
  have r := (shot_rows (μ := μ1) (sp := sp) (bl := bl) (di := di) (sg := sg) (sn := sn)).1
  have r2 := (r 2 (by decide) (by decide)).trans h.2.1
  refine ⟨r2, r2, ?_⟩
  have t := gTab_of h.2.2 r
  exact t
theorem bJ_n {μ μ1 : N2} (h : bJ μ μ1) : bJ μ (cpB μ1) := ⟨h.2.1, h.2.1, h.2.2⟩
theorem fin_72 : ∀ k : Fin 72, ¬ ((nI k.val - nI k.val / 6 * 6) < 0 ∨ 6 ≤ (nI k.val - nI k.val / 6 * 6).toNatClampNeg) := by decide +kernel
theorem b6 {x : Int32} (h : 0 ≤ x.toInt ∧ x.toInt ≤ 12) : (6 * x).toNatClampNeg ≤ 72 := by
  have e6 : (6 : Int32).toInt = 6 := rfl
  have h2 : (6 * x).toInt = 6 * x.toInt := by rw [ti_mul (by rw [e6]; omega) (by rw [e6]; omega), e6]
  rw [show (6 * x).toNatClampNeg = (6 * x).toInt.toNat from rfl, h2]
  omega
theorem b6_in {x : Int32} {k : Nat} (h : 0 ≤ x.toInt ∧ x.toInt ≤ 12) (hk : k < (6 * x).toNatClampNeg) : vp_in (nI k - nI k / 6 * 6) 6 := by
  have := b6 h
  exact fin_72 ⟨k, by omega⟩
theorem bx {x : Int32} : 6 * x ≤ nI ((6 * x).toNatClampNeg) := le_cl _
theorem dX7_best_0 : decode cX7_best 0 = .ok (.iload_n 1, 1) := by decide +kernel
theorem dX7_best_1 : decode cX7_best 1 = .ok (.iload_n 2, 1) := by decide +kernel
theorem dX7_best_2 : decode cX7_best 2 = .ok (.invokestatic 120, 3) := by decide +kernel
theorem dX7_best_5 : decode cX7_best 5 = .ok (.ifCond .eq 15, 3) := by decide +kernel
theorem dX7_best_8 : decode cX7_best 8 = .ok (.iload_n 3, 1) := by decide +kernel
theorem dX7_best_9 : decode cX7_best 9 = .ok (.i2l, 1) := by decide +kernel
theorem dX7_best_10 : decode cX7_best 10 = .ok (.lconst 0, 1) := by decide +kernel
theorem dX7_best_11 : decode cX7_best 11 = .ok (.ldc2_w 128, 3) := by decide +kernel
theorem dX7_best_14 : decode cX7_best 14 = .ok (.invokestatic 41, 3) := by decide +kernel
theorem dX7_best_17 : decode cX7_best 17 = .ok (.ifCond .ne 6, 3) := by decide +kernel
theorem dX7_best_20 : decode cX7_best 20 = .ok (.bipush (-2), 2) := by decide +kernel
theorem dX7_best_22 : decode cX7_best 22 = .ok (.ireturn, 1) := by decide +kernel
theorem dX7_best_23 : decode cX7_best 23 = .ok (.aload_n 0, 1) := by decide +kernel
theorem dX7_best_24 : decode cX7_best 24 = .ok (.getfield 7, 3) := by decide +kernel
theorem dX7_best_27 : decode cX7_best 27 = .ok (.aload_n 0, 1) := by decide +kernel
theorem dX7_best_28 : decode cX7_best 28 = .ok (.getfield 16, 3) := by decide +kernel
theorem dX7_best_31 : decode cX7_best 31 = .ok (.invokestatic 45, 3) := by decide +kernel
theorem dX7_best_34 : decode cX7_best 34 = .ok (.iconst 0, 1) := by decide +kernel
theorem dX7_best_35 : decode cX7_best 35 = .ok (.istore 4, 2) := by decide +kernel
theorem dX7_best_37 : decode cX7_best 37 = .ok (.bipush (-5), 2) := by decide +kernel
theorem dX7_best_39 : decode cX7_best 39 = .ok (.istore 5, 2) := by decide +kernel
theorem dX7_best_41 : decode cX7_best 41 = .ok (.iconst 0, 1) := by decide +kernel
theorem dX7_best_42 : decode cX7_best 42 = .ok (.istore 6, 2) := by decide +kernel
theorem dX7_best_44 : decode cX7_best 44 = .ok (.iload 6, 2) := by decide +kernel
theorem dX7_best_46 : decode cX7_best 46 = .ok (.bipush 6, 2) := by decide +kernel
theorem dX7_best_48 : decode cX7_best 48 = .ok (.aload_n 0, 1) := by decide +kernel
theorem dX7_best_49 : decode cX7_best 49 = .ok (.getfield 16, 3) := by decide +kernel
theorem dX7_best_52 : decode cX7_best 52 = .ok (.bipush 12, 2) := by decide +kernel
theorem dX7_best_54 : decode cX7_best 54 = .ok (.iaload, 1) := by decide +kernel
theorem dX7_best_55 : decode cX7_best 55 = .ok (.imul, 1) := by decide +kernel
theorem dX7_best_56 : decode cX7_best 56 = .ok (.if_icmp .ge 86, 3) := by decide +kernel
theorem dX7_best_59 : decode cX7_best 59 = .ok (.aload_n 0, 1) := by decide +kernel
theorem dX7_best_60 : decode cX7_best 60 = .ok (.iload 6, 2) := by decide +kernel
theorem dX7_best_62 : decode cX7_best 62 = .ok (.bipush 6, 2) := by decide +kernel
theorem dX7_best_64 : decode cX7_best 64 = .ok (.idiv, 1) := by decide +kernel
theorem dX7_best_65 : decode cX7_best 65 = .ok (.invokevirtual 145, 3) := by decide +kernel
theorem dX7_best_68 : decode cX7_best 68 = .ok (.ifCond .eq 22, 3) := by decide +kernel
theorem dX7_best_71 : decode cX7_best 71 = .ok (.aload_n 0, 1) := by decide +kernel
theorem dX7_best_72 : decode cX7_best 72 = .ok (.iload 6, 2) := by decide +kernel
theorem dX7_best_74 : decode cX7_best 74 = .ok (.bipush 6, 2) := by decide +kernel
theorem dX7_best_76 : decode cX7_best 76 = .ok (.idiv, 1) := by decide +kernel
theorem dX7_best_77 : decode cX7_best 77 = .ok (.iload 6, 2) := by decide +kernel
theorem dX7_best_79 : decode cX7_best 79 = .ok (.bipush 6, 2) := by decide +kernel
theorem dX7_best_81 : decode cX7_best 81 = .ok (.irem, 1) := by decide +kernel
theorem dX7_best_82 : decode cX7_best 82 = .ok (.iload_n 1, 1) := by decide +kernel
theorem dX7_best_83 : decode cX7_best 83 = .ok (.iload_n 2, 1) := by decide +kernel
theorem dX7_best_84 : decode cX7_best 84 = .ok (.invokevirtual 163, 3) := by decide +kernel
theorem dX7_best_87 : decode cX7_best 87 = .ok (.goto 4, 3) := by decide +kernel
theorem dX7_best_90 : decode cX7_best 90 = .ok (.iconst 0, 1) := by decide +kernel
theorem dX7_best_91 : decode cX7_best 91 = .ok (.istore 7, 2) := by decide +kernel
theorem dX7_best_93 : decode cX7_best 93 = .ok (.iload 7, 2) := by decide +kernel
theorem dX7_best_95 : decode cX7_best 95 = .ok (.iload 4, 2) := by decide +kernel
theorem dX7_best_97 : decode cX7_best 97 = .ok (.if_icmp .le 8, 3) := by decide +kernel
theorem dX7_best_100 : decode cX7_best 100 = .ok (.iload 6, 2) := by decide +kernel
theorem dX7_best_102 : decode cX7_best 102 = .ok (.goto 5, 3) := by decide +kernel
theorem dX7_best_105 : decode cX7_best 105 = .ok (.iload 5, 2) := by decide +kernel
theorem dX7_best_107 : decode cX7_best 107 = .ok (.istore 5, 2) := by decide +kernel
theorem dX7_best_109 : decode cX7_best 109 = .ok (.iload 7, 2) := by decide +kernel
theorem dX7_best_111 : decode cX7_best 111 = .ok (.iload 4, 2) := by decide +kernel
theorem dX7_best_113 : decode cX7_best 113 = .ok (.if_icmp .le 8, 3) := by decide +kernel
theorem dX7_best_116 : decode cX7_best 116 = .ok (.iload 7, 2) := by decide +kernel
theorem dX7_best_118 : decode cX7_best 118 = .ok (.goto 5, 3) := by decide +kernel
theorem dX7_best_121 : decode cX7_best 121 = .ok (.iload 4, 2) := by decide +kernel
theorem dX7_best_123 : decode cX7_best 123 = .ok (.istore 4, 2) := by decide +kernel
theorem dX7_best_125 : decode cX7_best 125 = .ok (.aload_n 0, 1) := by decide +kernel
theorem dX7_best_126 : decode cX7_best 126 = .ok (.getfield 16, 3) := by decide +kernel
theorem dX7_best_129 : decode cX7_best 129 = .ok (.aload_n 0, 1) := by decide +kernel
theorem dX7_best_130 : decode cX7_best 130 = .ok (.getfield 7, 3) := by decide +kernel
theorem dX7_best_133 : decode cX7_best 133 = .ok (.invokestatic 45, 3) := by decide +kernel
theorem dX7_best_136 : decode cX7_best 136 = .ok (.iinc 6 1, 3) := by decide +kernel
theorem dX7_best_139 : decode cX7_best 139 = .ok (.goto (-95), 3) := by decide +kernel
theorem dX7_best_142 : decode cX7_best 142 = .ok (.iload 5, 2) := by decide +kernel
theorem dX7_best_144 : decode cX7_best 144 = .ok (.bipush (-5), 2) := by decide +kernel
theorem dX7_best_146 : decode cX7_best 146 = .ok (.if_icmp .ne 8, 3) := by decide +kernel
theorem dX7_best_149 : decode cX7_best 149 = .ok (.bipush (-5), 2) := by decide +kernel
theorem dX7_best_151 : decode cX7_best 151 = .ok (.goto 30, 3) := by decide +kernel
theorem dX7_best_154 : decode cX7_best 154 = .ok (.iload_n 3, 1) := by decide +kernel
theorem dX7_best_155 : decode cX7_best 155 = .ok (.ifCond .ne 11, 3) := by decide +kernel
theorem dX7_best_158 : decode cX7_best 158 = .ok (.iload 5, 2) := by decide +kernel
theorem dX7_best_160 : decode cX7_best 160 = .ok (.bipush 6, 2) := by decide +kernel
theorem dX7_best_162 : decode cX7_best 162 = .ok (.idiv, 1) := by decide +kernel
theorem dX7_best_163 : decode cX7_best 163 = .ok (.goto 18, 3) := by decide +kernel
theorem dX7_best_166 : decode cX7_best 166 = .ok (.iload_n 3, 1) := by decide +kernel
theorem dX7_best_167 : decode cX7_best 167 = .ok (.iconst 1, 1) := by decide +kernel
theorem dX7_best_168 : decode cX7_best 168 = .ok (.if_icmp .ne 11, 3) := by decide +kernel
theorem dX7_best_171 : decode cX7_best 171 = .ok (.iload 5, 2) := by decide +kernel
theorem dX7_best_173 : decode cX7_best 173 = .ok (.bipush 6, 2) := by decide +kernel
theorem dX7_best_175 : decode cX7_best 175 = .ok (.irem, 1) := by decide +kernel
theorem dX7_best_176 : decode cX7_best 176 = .ok (.goto 5, 3) := by decide +kernel
theorem dX7_best_179 : decode cX7_best 179 = .ok (.iload 4, 2) := by decide +kernel
theorem dX7_best_181 : decode cX7_best 181 = .ok (.ireturn, 1) := by decide +kernel
set_option maxHeartbeats 4000000 in
set_option maxRecDepth 100000 in
theorem kX7_best (l : Launch) (E : Ev) (a : Nat → Nat) (μ : N2) (sp : UInt32) (sg : Int32) (sn : Int32) (wh : Int32) (hA : gA (μ 0)) (hTb : gTab μ) : KQ l yX7_best cX7_best 8 (some .int) 5 116 E [.ref (a 0), .int sg, .int sn, .int wh] (wMd E a μ sp) (QI E (wMd E a μ sp) (fX7_best μ sp sg sn wh).1 (wMd E a ((fX7_best μ sp sg sn wh).2.1) ((fX7_best μ sp sg sn wh).2.2))) := by
  refine KQ.mk RX7 rfl (by decide +kernel) (Nat.le_of_ble_eq_true rfl) ?_
  intro p e s m below meth c ls X hr w hl
  have hx := X.1
  have hb := X.2.1
  have hl : lv_has ls 8 [(0, .ref (a 0)), (1, .int sg), (2, .int sn), (3, .int wh)] := hl
  refine lv_iload_n hx hb dX7_best_0 rfl (lv_at hl 1 rfl) ?_
  refine lv_iload_n hx hb dX7_best_1 rfl (lv_at hl 2 rfl) ?_
  refine r_ci w (r_runS (As := [.int sg, .int sn]) (rest := []) X w (kX7_isStroke l E sg sn ) ck_X7_120 ⟨Nat.le_of_ble_eq_true rfl, Nat.le_of_ble_eq_true rfl⟩ [] rfl (by decide +kernel) hl.1 (Nat.le_of_ble_eq_true rfl) rfl dX7_best_2 ⟨Nat.le_of_ble_eq_true rfl, Nat.le_of_ble_eq_true rfl⟩) (wMd E a μ sp) [] rfl (by decide +kernel) rfl rfl (fun H locs w => ?_)
  refine lv_if_eq (tgt := 20) hx hb dX7_best_5 (by decide) (fun c5_1 => ?_) (fun c5_1 => ?_)
  · refine lv_bipush (v := (-2)) hx hb dX7_best_20 (by decide) ?_
    have hq : fX7_best μ sp sg sn wh = ((-2), μ, sp) := by simp only [fX7_best, if_pos c5_1]
    obtain ⟨h0_, h1_, h2_⟩ := tup3 hq
    rw [h0_, h1_, h2_]
    exact r_iret X w hr rfl dX7_best_22
  · refine lv_iload_n hx hb dX7_best_8 rfl (lv_at hl 3 rfl) ?_
    refine lv_i2l hx hb dX7_best_9 rfl ?_
    refine lv_lconst (v := 0) hx hb dX7_best_10 (by decide) ?_
    refine r_ldcl X wk_X7_128 dX7_best_11 ?_
    refine r_ci w (r_runS (As := [.long wh.toInt64, .long 0, .long 2]) (rest := []) X w (kX7_in l E wh.toInt64 0 2 ) ck_X7_41 ⟨Nat.le_of_ble_eq_true rfl, Nat.le_of_ble_eq_true rfl⟩ [] rfl (by decide +kernel) hl.1 (Nat.le_of_ble_eq_true rfl) rfl dX7_best_14 ⟨Nat.le_of_ble_eq_true rfl, Nat.le_of_ble_eq_true rfl⟩) (wMd E a μ sp) [] rfl (by decide +kernel) rfl rfl (fun H locs w => ?_)
    refine lv_if_ne (tgt := 23) hx hb dX7_best_17 (by decide) (fun c17_2 => ?_) (fun c17_2 => ?_)
    · refine lv_aload_n hx hb dX7_best_23 rfl (lv_at hl 0 rfl) ?_
      refine r_get X w CL7 0 (by decide) wf_X7_7 0 rfl rfl dX7_best_24 ?_
      refine lv_aload_n hx hb dX7_best_27 rfl (lv_at hl 0 rfl) ?_
      refine r_get X w CL7 2 (by decide) wf_X7_16 0 rfl rfl dX7_best_28 ?_
      refine r_cv w (r_runS (As := [.ref (a 1), .ref (a 3)]) (rest := []) X w (kX7_copy l E (a 1) (μ 0) (a 3) (μ 2) ) ck_X7_45 ⟨Nat.le_of_ble_eq_true rfl, Nat.le_of_ble_eq_true rfl⟩ [1, 3] (hc_101 (E := E)) (by decide +kernel) hl.1 (Nat.le_of_ble_eq_true rfl) rfl dX7_best_31 ⟨Nat.le_of_ble_eq_true rfl, Nat.le_of_ble_eq_true rfl⟩) (wMd E a (va_up μ 2 (fX7_copy (μ 0) (μ 2))) sp) [1, 3] (hc_101 (E := E)) (by decide +kernel) (ha_101 (E := E)) (hw_101 (E := E)) (fun H locs w => ?_)
      refine lv_iconst (v := 0) hx hb dX7_best_34 (by decide) ?_
      refine lv_istore (lv' := [(4, .int 0), (0, .ref (a 0)), (1, .int sg), (2, .int sn), (3, .int wh)]) hx hb dX7_best_35 hl (by decide) rfl (fun ls hl => ?_)
      refine lv_bipush (v := (-5)) hx hb dX7_best_37 (by decide) ?_
      refine lv_istore (lv' := [(5, .int (-5)), (4, .int 0), (0, .ref (a 0)), (1, .int sg), (2, .int sn), (3, .int wh)]) hx hb dX7_best_39 hl (by decide) rfl (fun ls hl => ?_)
      refine lv_iconst (v := 0) hx hb dX7_best_41 (by decide) ?_
      refine lv_istore (lv' := [(6, .int 0), (5, .int (-5)), (4, .int 0), (0, .ref (a 0)), (1, .int sg), (2, .int sn), (3, .int wh)]) hx hb dX7_best_42 hl (by decide) rfl (fun ls hl => ?_)
      have loop : ∀ (n k : Nat), k + n = ((6 : Int32) * μ 0 12).toNatClampNeg → ∀ (m1 f1 : Int32) (μ1 : N2) (sp1 : UInt32), bJ μ μ1 → bmN sg sn n k m1 f1 μ1 sp1 = bmF μ sp sg sn → ∀ (H : Heap) (locs : List Loc), Wd E (hB (wMd E a μ sp)) s (wMd E a μ1 sp1) H locs → ∀ (ls : Array Slot), lv_has ls 8 [(6, .int (nI k)), (5, .int f1), (4, .int m1), (0, .ref (a 0)), (1, .int sg), (2, .int sn), (3, .int wh)] → W p l e { frames := 5, cells := 0, slots := 0, locals := 116 } s m (([.ref (a 0), .int sg, .int sn, .int wh] : List Value)).toArray below meth c H locs 0 0 (MQ below (QI E (wMd E a μ sp) (fX7_best μ sp sg sn wh).1 (wMd E a ((fX7_best μ sp sg sn wh).2.1) ((fX7_best μ sp sg sn wh).2.2))) (([.ref (a 0), .int sg, .int sn, .int wh] : List Value)).toArray s 0 0 (hB (wMd E a μ sp))) (F0 m 44 ls []) := by
        intro n
        induction n with
        | zero =>
          intro k hk_k m1 f1 μ1 sp1 hJ hR H locs w ls hl
          obtain rfl : ((6 : Int32) * μ 0 12).toNatClampNeg = k := by omega
          refine lv_iload hx hb dX7_best_44 (lv_at hl 0 rfl) ?_
          refine lv_bipush (v := 6) hx hb dX7_best_46 (by decide) ?_
          refine lv_aload_n hx hb dX7_best_48 rfl (lv_at hl 3 rfl) ?_
          refine r_get X w CL7 2 (by decide) wf_X7_16 0 rfl rfl dX7_best_49 ?_
          refine lv_bipush (v := 12) hx hb dX7_best_52 (by decide) ?_
          refine r_ialdL X w 3 rfl (j := 12) rfl (vin_c rfl) dX7_best_54 ?_
          refine lv_imul hx hb dX7_best_55 ?_
          refine lv_icmp_ge (tgt := 142) hx hb dX7_best_56 (by decide) (fun _ => ?_) (fun h => absurd (by rw [hJ.2.1]; exact bx) h)
          refine lv_iload hx hb dX7_best_142 (lv_at hl 1 rfl) ?_
          refine lv_bipush (v := (-5)) hx hb dX7_best_144 (by decide) ?_
          refine lv_icmp_ne (tgt := 154) hx hb dX7_best_146 (by decide) (fun c146_4 => ?_) (fun c146_4 => ?_)
          · refine lv_iload_n hx hb dX7_best_154 rfl (lv_at hl 6 rfl) ?_
            refine lv_if_ne (tgt := 166) hx hb dX7_best_155 (by decide) (fun c155_5 => ?_) (fun c155_5 => ?_)
            · refine lv_iload_n hx hb dX7_best_166 rfl (lv_at hl 6 rfl) ?_
              refine lv_iconst (v := 1) hx hb dX7_best_167 (by decide) ?_
              refine lv_icmp_ne (tgt := 179) hx hb dX7_best_168 (by decide) (fun c168_6 => ?_) (fun c168_6 => ?_)
              · refine lv_iload hx hb dX7_best_179 (lv_at hl 2 rfl) ?_
                have hq : fX7_best μ sp sg sn wh = (m1, μ1, sp1) := by have hq2 : (m1, f1, μ1, sp1) = bmF μ sp sg sn := hR; simp only [fX7_best, ← hq2, if_neg c5_1, if_neg c17_2, if_neg c146_4, if_neg c155_5, if_neg c168_6]
                obtain ⟨h0_, h1_, h2_⟩ := tup3 hq
                rw [h0_, h1_, h2_]
                exact r_iret X w hr rfl dX7_best_181
              · refine lv_iload hx hb dX7_best_171 (lv_at hl 1 rfl) ?_
                refine lv_bipush (v := 6) hx hb dX7_best_173 (by decide) ?_
                refine lv_irem hx hb dX7_best_175 (by decide) ?_
                refine lv_goto (tgt := 181) hx hb dX7_best_176 (by decide) ?_
                have hq : fX7_best μ sp sg sn wh = (f1 - f1 / 6 * 6, μ1, sp1) := by have hq2 : (m1, f1, μ1, sp1) = bmF μ sp sg sn := hR; simp only [fX7_best, ← hq2, if_neg c5_1, if_neg c17_2, if_neg c146_4, if_neg c155_5, if_pos c168_6]
                obtain ⟨h0_, h1_, h2_⟩ := tup3 hq
                rw [h0_, h1_, h2_]
                exact r_iret X w hr rfl dX7_best_181
            · refine lv_iload hx hb dX7_best_158 (lv_at hl 1 rfl) ?_
              refine lv_bipush (v := 6) hx hb dX7_best_160 (by decide) ?_
              refine lv_idiv hx hb dX7_best_162 (by decide) ?_
              refine lv_goto (tgt := 181) hx hb dX7_best_163 (by decide) ?_
              have hq : fX7_best μ sp sg sn wh = (f1 / 6, μ1, sp1) := by have hq2 : (m1, f1, μ1, sp1) = bmF μ sp sg sn := hR; simp only [fX7_best, ← hq2, if_neg c5_1, if_neg c17_2, if_neg c146_4, if_pos c155_5]
              obtain ⟨h0_, h1_, h2_⟩ := tup3 hq
              rw [h0_, h1_, h2_]
              exact r_iret X w hr rfl dX7_best_181
          · refine lv_bipush (v := (-5)) hx hb dX7_best_149 (by decide) ?_
            refine lv_goto (tgt := 181) hx hb dX7_best_151 (by decide) ?_
            have hq : fX7_best μ sp sg sn wh = ((-5), μ1, sp1) := by have hq2 : (m1, f1, μ1, sp1) = bmF μ sp sg sn := hR; simp only [fX7_best, ← hq2, if_neg c5_1, if_neg c17_2, if_pos c146_4]
            obtain ⟨h0_, h1_, h2_⟩ := tup3 hq
            rw [h0_, h1_, h2_]
            exact r_iret X w hr rfl dX7_best_181
        | succ n ih =>
          intro k hk_k m1 f1 μ1 sp1 hJ hR H locs w ls hl
          have hkN : k < ((6 : Int32) * μ 0 12).toNatClampNeg := by omega
          refine lv_iload hx hb dX7_best_44 (lv_at hl 0 rfl) ?_
          refine lv_bipush (v := 6) hx hb dX7_best_46 (by decide) ?_
          refine lv_aload_n hx hb dX7_best_48 rfl (lv_at hl 3 rfl) ?_
          refine r_get X w CL7 2 (by decide) wf_X7_16 0 rfl rfl dX7_best_49 ?_
          refine lv_bipush (v := 12) hx hb dX7_best_52 (by decide) ?_
          refine r_ialdL X w 3 rfl (j := 12) rfl (vin_c rfl) dX7_best_54 ?_
          refine lv_imul hx hb dX7_best_55 ?_
          refine lv_icmp_ge (tgt := 142) hx hb dX7_best_56 (by decide) (fun h => absurd h (by rw [hJ.2.1]; exact lt_cl hkN)) (fun _ => ?_)
          refine lv_aload_n hx hb dX7_best_59 rfl (lv_at hl 3 rfl) ?_
          refine lv_iload hx hb dX7_best_60 (lv_at hl 0 rfl) ?_
          refine lv_bipush (v := 6) hx hb dX7_best_62 (by decide) ?_
          refine lv_idiv hx hb dX7_best_64 (by decide) ?_
          refine r_ci w (r_runV (As := [.int ((nI k) / 6)]) (rest := []) X w (kX7_isBall l E a μ1 sp1 ((nI k) / 6) (show gE μ1 by unfold gE; rw [hJ.1]; exact hA.1).le) ck_X7_145 ⟨Nat.le_of_ble_eq_true rfl, Nat.le_of_ble_eq_true rfl⟩ [0, 1, 2, 3, 4, 5, 6, 7, 8, 9] (hc_81 (E := E)) (by decide +kernel) (k0 := 0) CL7 rfl hl.1 (Nat.le_of_ble_eq_true rfl) rfl dX7_best_65 ⟨Nat.le_of_ble_eq_true rfl, Nat.le_of_ble_eq_true rfl⟩) (wMd E a μ1 sp1) [0, 1, 2, 3, 4, 5, 6, 7, 8, 9] (hc_81 (E := E)) (by decide +kernel) (ha_81 (E := E)) (hw_81 (E := E)) (fun H locs w => ?_)
          refine lv_if_eq (tgt := 90) hx hb dX7_best_68 (by decide) (fun c68_8 => ?_) (fun c68_8 => ?_)
          · refine lv_iconst (v := 0) hx hb dX7_best_90 (by decide) ?_
            refine lv_istore (lv' := [(7, .int 0), (6, .int (nI k)), (5, .int f1), (4, .int m1), (0, .ref (a 0)), (1, .int sg), (2, .int sn), (3, .int wh)]) hx hb dX7_best_91 hl (by decide) rfl (fun ls hl => ?_)
            refine lv_iload hx hb dX7_best_93 (lv_at hl 0 rfl) ?_
            refine lv_iload hx hb dX7_best_95 (lv_at hl 3 rfl) ?_
            refine lv_icmp_le (tgt := 105) hx hb dX7_best_97 (by decide) (fun c97_9 => ?_) (fun c97_9 => ?_)
            · refine lv_iload hx hb dX7_best_105 (lv_at hl 2 rfl) ?_
              refine lv_istore (lv' := [(5, .int f1), (7, .int 0), (6, .int (nI k)), (4, .int m1), (0, .ref (a 0)), (1, .int sg), (2, .int sn), (3, .int wh)]) hx hb dX7_best_107 hl (by decide) rfl (fun ls hl => ?_)
              refine lv_iload hx hb dX7_best_109 (lv_at hl 1 rfl) ?_
              refine lv_iload hx hb dX7_best_111 (lv_at hl 3 rfl) ?_
              refine lv_icmp_le (tgt := 121) hx hb dX7_best_113 (by decide) (fun _ => ?_) (fun h => absurd c97_9 h)
              refine lv_iload hx hb dX7_best_121 (lv_at hl 3 rfl) ?_
              refine lv_istore (lv' := [(4, .int m1), (5, .int f1), (7, .int 0), (6, .int (nI k)), (0, .ref (a 0)), (1, .int sg), (2, .int sn), (3, .int wh)]) hx hb dX7_best_123 hl (by decide) rfl (fun ls hl => ?_)
              refine lv_aload_n hx hb dX7_best_125 rfl (lv_at hl 4 rfl) ?_
              refine r_get X w CL7 2 (by decide) wf_X7_16 0 rfl rfl dX7_best_126 ?_
              refine lv_aload_n hx hb dX7_best_129 rfl (lv_at hl 4 rfl) ?_
              refine r_get X w CL7 0 (by decide) wf_X7_7 0 rfl rfl dX7_best_130 ?_
              refine r_cv w (r_runS (As := [.ref (a 3), .ref (a 1)]) (rest := []) X w (kX7_copy l E (a 3) (μ1 2) (a 1) (μ1 0) ) ck_X7_45 ⟨Nat.le_of_ble_eq_true rfl, Nat.le_of_ble_eq_true rfl⟩ [3, 1] (hc_102 (E := E)) (by decide +kernel) hl.1 (Nat.le_of_ble_eq_true rfl) rfl dX7_best_133 ⟨Nat.le_of_ble_eq_true rfl, Nat.le_of_ble_eq_true rfl⟩) (wMd E a (va_up μ1 0 (fX7_copy (μ1 2) (μ1 0))) sp1) [3, 1] (hc_102 (E := E)) (by decide +kernel) (ha_102 (E := E)) (hw_102 (E := E)) (fun H locs w => ?_)
              refine lv_iinc (v := (nI k) + 1) (lv' := [(6, .int ((nI k) + 1)), (4, .int m1), (5, .int f1), (7, .int 0), (0, .ref (a 0)), (1, .int sg), (2, .int sn), (3, .int wh)]) hx hb dX7_best_136 hl (k := 3) rfl (by first | rfl | decide) (by decide) rfl (fun ls hl => ?_)
              refine lv_goto (tgt := 44) hx hb dX7_best_139 (by decide) ?_
              have e0 : nI k + 1 = nI (k + 1) := nI_1 k
              rw [e0] at hl
              exact ih (k + 1) (by omega) _ _ _ _ (bJ_n hJ) (by rw [← hR]; simp only [bmN, if_pos c68_8, if_pos c97_9]; try rfl) _ _ w ls (lv_sub hl [0, 2, 1, 4, 5, 6, 7] rfl)
            · refine lv_iload hx hb dX7_best_100 (lv_at hl 1 rfl) ?_
              refine lv_goto (tgt := 107) hx hb dX7_best_102 (by decide) ?_
              refine lv_istore (lv' := [(5, .int (nI k)), (7, .int 0), (6, .int (nI k)), (4, .int m1), (0, .ref (a 0)), (1, .int sg), (2, .int sn), (3, .int wh)]) hx hb dX7_best_107 hl (by decide) rfl (fun ls hl => ?_)
              refine lv_iload hx hb dX7_best_109 (lv_at hl 1 rfl) ?_
              refine lv_iload hx hb dX7_best_111 (lv_at hl 3 rfl) ?_
              refine lv_icmp_le (tgt := 121) hx hb dX7_best_113 (by decide) (fun h => absurd h c97_9) (fun _ => ?_)
              refine lv_iload hx hb dX7_best_116 (lv_at hl 1 rfl) ?_
              refine lv_goto (tgt := 123) hx hb dX7_best_118 (by decide) ?_
              refine lv_istore (lv' := [(4, .int 0), (5, .int (nI k)), (7, .int 0), (6, .int (nI k)), (0, .ref (a 0)), (1, .int sg), (2, .int sn), (3, .int wh)]) hx hb dX7_best_123 hl (by decide) rfl (fun ls hl => ?_)
              refine lv_aload_n hx hb dX7_best_125 rfl (lv_at hl 4 rfl) ?_
              refine r_get X w CL7 2 (by decide) wf_X7_16 0 rfl rfl dX7_best_126 ?_
              refine lv_aload_n hx hb dX7_best_129 rfl (lv_at hl 4 rfl) ?_
              refine r_get X w CL7 0 (by decide) wf_X7_7 0 rfl rfl dX7_best_130 ?_
              refine r_cv w (r_runS (As := [.ref (a 3), .ref (a 1)]) (rest := []) X w (kX7_copy l E (a 3) (μ1 2) (a 1) (μ1 0) ) ck_X7_45 ⟨Nat.le_of_ble_eq_true rfl, Nat.le_of_ble_eq_true rfl⟩ [3, 1] (hc_102 (E := E)) (by decide +kernel) hl.1 (Nat.le_of_ble_eq_true rfl) rfl dX7_best_133 ⟨Nat.le_of_ble_eq_true rfl, Nat.le_of_ble_eq_true rfl⟩) (wMd E a (va_up μ1 0 (fX7_copy (μ1 2) (μ1 0))) sp1) [3, 1] (hc_102 (E := E)) (by decide +kernel) (ha_102 (E := E)) (hw_102 (E := E)) (fun H locs w => ?_)
              refine lv_iinc (v := (nI k) + 1) (lv' := [(6, .int ((nI k) + 1)), (4, .int 0), (5, .int (nI k)), (7, .int 0), (0, .ref (a 0)), (1, .int sg), (2, .int sn), (3, .int wh)]) hx hb dX7_best_136 hl (k := 3) rfl (by first | rfl | decide) (by decide) rfl (fun ls hl => ?_)
              refine lv_goto (tgt := 44) hx hb dX7_best_139 (by decide) ?_
              have e0 : nI k + 1 = nI (k + 1) := nI_1 k
              rw [e0] at hl
              exact ih (k + 1) (by omega) _ _ _ _ (bJ_n hJ) (by rw [← hR]; simp only [bmN, if_pos c68_8, if_neg c97_9]; try rfl) _ _ w ls (lv_sub hl [0, 2, 1, 4, 5, 6, 7] rfl)
          · refine lv_aload_n hx hb dX7_best_71 rfl (lv_at hl 3 rfl) ?_
            refine lv_iload hx hb dX7_best_72 (lv_at hl 0 rfl) ?_
            refine lv_bipush (v := 6) hx hb dX7_best_74 (by decide) ?_
            refine lv_idiv hx hb dX7_best_76 (by decide) ?_
            refine lv_iload hx hb dX7_best_77 (lv_at hl 0 rfl) ?_
            refine lv_bipush (v := 6) hx hb dX7_best_79 (by decide) ?_
            refine lv_irem hx hb dX7_best_81 (by decide) ?_
            refine lv_iload_n hx hb dX7_best_82 rfl (lv_at hl 4 rfl) ?_
            refine lv_iload_n hx hb dX7_best_83 rfl (lv_at hl 5 rfl) ?_
            refine r_ci w (r_runV (As := [.int ((nI k) / 6), .int ((nI k) - (nI k) / 6 * 6), .int sg, .int sn]) (rest := []) X w (kX7_shot l E a μ1 sp1 ((nI k) / 6) ((nI k) - (nI k) / 6 * 6) sg sn (hJ.1.symm ▸ hA) hJ.2.2 (isBall_ix (show gE μ1 by unfold gE; rw [hJ.1]; exact hA.1) c68_8).2.1 (b6_in hA.1 hkN) ((show gA (μ1 0) from hJ.1.symm ▸ hA).cell (isBall_ix (show gE μ1 by unfold gE; rw [hJ.1]; exact hA.1) c68_8).2.1 (isBall_ix (show gE μ1 by unfold gE; rw [hJ.1]; exact hA.1) c68_8).2.2.2.2) (strk_ok c5_1)) ck_X7_163 ⟨Nat.le_of_ble_eq_true rfl, Nat.le_of_ble_eq_true rfl⟩ [0, 1, 2, 3, 4, 5, 6, 7, 8, 9] (hc_81 (E := E)) (by decide +kernel) (k0 := 0) CL7 rfl hl.1 (Nat.le_of_ble_eq_true rfl) rfl dX7_best_84 ⟨Nat.le_of_ble_eq_true rfl, Nat.le_of_ble_eq_true rfl⟩) (wMd E a ((fX7_shot μ1 sp1 ((nI k) / 6) ((nI k) - (nI k) / 6 * 6) sg sn).2.1) ((fX7_shot μ1 sp1 ((nI k) / 6) ((nI k) - (nI k) / 6 * 6) sg sn).2.2)) [0, 1, 2, 3, 4, 5, 6, 7, 8, 9] (hc_81 (E := E)) (by decide +kernel) (ha_81 (E := E)) (hw_81 (E := E)) (fun H locs w => ?_)
            refine lv_goto (tgt := 91) hx hb dX7_best_87 (by decide) ?_
            refine lv_istore (lv' := [(7, .int ((fX7_shot μ1 sp1 ((nI k) / 6) ((nI k) - (nI k) / 6 * 6) sg sn).1)), (6, .int (nI k)), (5, .int f1), (4, .int m1), (0, .ref (a 0)), (1, .int sg), (2, .int sn), (3, .int wh)]) hx hb dX7_best_91 hl (by decide) rfl (fun ls hl => ?_)
            refine lv_iload hx hb dX7_best_93 (lv_at hl 0 rfl) ?_
            refine lv_iload hx hb dX7_best_95 (lv_at hl 3 rfl) ?_
            refine lv_icmp_le (tgt := 105) hx hb dX7_best_97 (by decide) (fun c97_10 => ?_) (fun c97_10 => ?_)
            · refine lv_iload hx hb dX7_best_105 (lv_at hl 2 rfl) ?_
              refine lv_istore (lv' := [(5, .int f1), (7, .int ((fX7_shot μ1 sp1 ((nI k) / 6) ((nI k) - (nI k) / 6 * 6) sg sn).1)), (6, .int (nI k)), (4, .int m1), (0, .ref (a 0)), (1, .int sg), (2, .int sn), (3, .int wh)]) hx hb dX7_best_107 hl (by decide) rfl (fun ls hl => ?_)
              refine lv_iload hx hb dX7_best_109 (lv_at hl 1 rfl) ?_
              refine lv_iload hx hb dX7_best_111 (lv_at hl 3 rfl) ?_
              refine lv_icmp_le (tgt := 121) hx hb dX7_best_113 (by decide) (fun _ => ?_) (fun h => absurd c97_10 h)
              refine lv_iload hx hb dX7_best_121 (lv_at hl 3 rfl) ?_
              refine lv_istore (lv' := [(4, .int m1), (5, .int f1), (7, .int ((fX7_shot μ1 sp1 ((nI k) / 6) ((nI k) - (nI k) / 6 * 6) sg sn).1)), (6, .int (nI k)), (0, .ref (a 0)), (1, .int sg), (2, .int sn), (3, .int wh)]) hx hb dX7_best_123 hl (by decide) rfl (fun ls hl => ?_)
              refine lv_aload_n hx hb dX7_best_125 rfl (lv_at hl 4 rfl) ?_
              refine r_get X w CL7 2 (by decide) wf_X7_16 0 rfl rfl dX7_best_126 ?_
              refine lv_aload_n hx hb dX7_best_129 rfl (lv_at hl 4 rfl) ?_
              refine r_get X w CL7 0 (by decide) wf_X7_7 0 rfl rfl dX7_best_130 ?_
              refine r_cv w (r_runS (As := [.ref (a 3), .ref (a 1)]) (rest := []) X w (kX7_copy l E (a 3) (((fX7_shot μ1 sp1 ((nI k) / 6) ((nI k) - (nI k) / 6 * 6) sg sn).2.1) 2) (a 1) (((fX7_shot μ1 sp1 ((nI k) / 6) ((nI k) - (nI k) / 6 * 6) sg sn).2.1) 0) ) ck_X7_45 ⟨Nat.le_of_ble_eq_true rfl, Nat.le_of_ble_eq_true rfl⟩ [3, 1] (hc_102 (E := E)) (by decide +kernel) hl.1 (Nat.le_of_ble_eq_true rfl) rfl dX7_best_133 ⟨Nat.le_of_ble_eq_true rfl, Nat.le_of_ble_eq_true rfl⟩) (wMd E a (va_up ((fX7_shot μ1 sp1 ((nI k) / 6) ((nI k) - (nI k) / 6 * 6) sg sn).2.1) 0 (fX7_copy (((fX7_shot μ1 sp1 ((nI k) / 6) ((nI k) - (nI k) / 6 * 6) sg sn).2.1) 2) (((fX7_shot μ1 sp1 ((nI k) / 6) ((nI k) - (nI k) / 6 * 6) sg sn).2.1) 0))) ((fX7_shot μ1 sp1 ((nI k) / 6) ((nI k) - (nI k) / 6 * 6) sg sn).2.2)) [3, 1] (hc_102 (E := E)) (by decide +kernel) (ha_102 (E := E)) (hw_102 (E := E)) (fun H locs w => ?_)
              refine lv_iinc (v := (nI k) + 1) (lv' := [(6, .int ((nI k) + 1)), (4, .int m1), (5, .int f1), (7, .int ((fX7_shot μ1 sp1 ((nI k) / 6) ((nI k) - (nI k) / 6 * 6) sg sn).1)), (0, .ref (a 0)), (1, .int sg), (2, .int sn), (3, .int wh)]) hx hb dX7_best_136 hl (k := 3) rfl (by first | rfl | decide) (by decide) rfl (fun ls hl => ?_)
              refine lv_goto (tgt := 44) hx hb dX7_best_139 (by decide) ?_
              have e0 : nI k + 1 = nI (k + 1) := nI_1 k
              rw [e0] at hl
              exact ih (k + 1) (by omega) _ _ _ _ (bJ_s hJ) (by rw [← hR]; simp only [bmN, if_neg c68_8, if_pos c97_10]; try rfl) _ _ w ls (lv_sub hl [0, 2, 1, 4, 5, 6, 7] rfl)
            · refine lv_iload hx hb dX7_best_100 (lv_at hl 1 rfl) ?_
              refine lv_goto (tgt := 107) hx hb dX7_best_102 (by decide) ?_
              refine lv_istore (lv' := [(5, .int (nI k)), (7, .int ((fX7_shot μ1 sp1 ((nI k) / 6) ((nI k) - (nI k) / 6 * 6) sg sn).1)), (6, .int (nI k)), (4, .int m1), (0, .ref (a 0)), (1, .int sg), (2, .int sn), (3, .int wh)]) hx hb dX7_best_107 hl (by decide) rfl (fun ls hl => ?_)
              refine lv_iload hx hb dX7_best_109 (lv_at hl 1 rfl) ?_
              refine lv_iload hx hb dX7_best_111 (lv_at hl 3 rfl) ?_
              refine lv_icmp_le (tgt := 121) hx hb dX7_best_113 (by decide) (fun h => absurd h c97_10) (fun _ => ?_)
              refine lv_iload hx hb dX7_best_116 (lv_at hl 1 rfl) ?_
              refine lv_goto (tgt := 123) hx hb dX7_best_118 (by decide) ?_
              refine lv_istore (lv' := [(4, .int ((fX7_shot μ1 sp1 ((nI k) / 6) ((nI k) - (nI k) / 6 * 6) sg sn).1)), (5, .int (nI k)), (7, .int ((fX7_shot μ1 sp1 ((nI k) / 6) ((nI k) - (nI k) / 6 * 6) sg sn).1)), (6, .int (nI k)), (0, .ref (a 0)), (1, .int sg), (2, .int sn), (3, .int wh)]) hx hb dX7_best_123 hl (by decide) rfl (fun ls hl => ?_)
              refine lv_aload_n hx hb dX7_best_125 rfl (lv_at hl 4 rfl) ?_
              refine r_get X w CL7 2 (by decide) wf_X7_16 0 rfl rfl dX7_best_126 ?_
              refine lv_aload_n hx hb dX7_best_129 rfl (lv_at hl 4 rfl) ?_
              refine r_get X w CL7 0 (by decide) wf_X7_7 0 rfl rfl dX7_best_130 ?_
              refine r_cv w (r_runS (As := [.ref (a 3), .ref (a 1)]) (rest := []) X w (kX7_copy l E (a 3) (((fX7_shot μ1 sp1 ((nI k) / 6) ((nI k) - (nI k) / 6 * 6) sg sn).2.1) 2) (a 1) (((fX7_shot μ1 sp1 ((nI k) / 6) ((nI k) - (nI k) / 6 * 6) sg sn).2.1) 0) ) ck_X7_45 ⟨Nat.le_of_ble_eq_true rfl, Nat.le_of_ble_eq_true rfl⟩ [3, 1] (hc_102 (E := E)) (by decide +kernel) hl.1 (Nat.le_of_ble_eq_true rfl) rfl dX7_best_133 ⟨Nat.le_of_ble_eq_true rfl, Nat.le_of_ble_eq_true rfl⟩) (wMd E a (va_up ((fX7_shot μ1 sp1 ((nI k) / 6) ((nI k) - (nI k) / 6 * 6) sg sn).2.1) 0 (fX7_copy (((fX7_shot μ1 sp1 ((nI k) / 6) ((nI k) - (nI k) / 6 * 6) sg sn).2.1) 2) (((fX7_shot μ1 sp1 ((nI k) / 6) ((nI k) - (nI k) / 6 * 6) sg sn).2.1) 0))) ((fX7_shot μ1 sp1 ((nI k) / 6) ((nI k) - (nI k) / 6 * 6) sg sn).2.2)) [3, 1] (hc_102 (E := E)) (by decide +kernel) (ha_102 (E := E)) (hw_102 (E := E)) (fun H locs w => ?_)
              refine lv_iinc (v := (nI k) + 1) (lv' := [(6, .int ((nI k) + 1)), (4, .int ((fX7_shot μ1 sp1 ((nI k) / 6) ((nI k) - (nI k) / 6 * 6) sg sn).1)), (5, .int (nI k)), (7, .int ((fX7_shot μ1 sp1 ((nI k) / 6) ((nI k) - (nI k) / 6 * 6) sg sn).1)), (0, .ref (a 0)), (1, .int sg), (2, .int sn), (3, .int wh)]) hx hb dX7_best_136 hl (k := 3) rfl (by first | rfl | decide) (by decide) rfl (fun ls hl => ?_)
              refine lv_goto (tgt := 44) hx hb dX7_best_139 (by decide) ?_
              have e0 : nI k + 1 = nI (k + 1) := nI_1 k
              rw [e0] at hl
              exact ih (k + 1) (by omega) _ _ _ _ (bJ_s hJ) (by rw [← hR]; simp only [bmN, if_neg c68_8, if_neg c97_10]; try rfl) _ _ w ls (lv_sub hl [0, 2, 1, 4, 5, 6, 7] rfl)
      exact loop (((6 : Int32) * μ 0 12).toNatClampNeg) 0 (by omega) _ _ _ _ (bJ0 hTb) rfl _ _ w ls (lv_sub hl [0, 1, 2, 3, 4, 5, 6] rfl)
    · refine lv_bipush (v := (-2)) hx hb dX7_best_20 (by decide) ?_
      have hq : fX7_best μ sp sg sn wh = ((-2), μ, sp) := by simp only [fX7_best, if_neg c5_1, if_pos c17_2]
      obtain ⟨h0_, h1_, h2_⟩ := tup3 hq
      rw [h0_, h1_, h2_]
      exact r_iret X w hr rfl dX7_best_22
