/-! shots of the face, side by side (wip/whole/gen/p37.lean) -/
/-- equal but for what the class doesn't keep -/
theorem cls_but {f g : N1} (h : ∀ j, ¬ j = 10 → ¬ j = 11 → f j = g j) : cls f = cls g :=
  cls_rows (cls_r0 fun b hb => h _ (by omega) (by omega)) (cls_r1 fun b hb => h _ (by omega) (by omega)) (cls_r2 fun b hb => h _ (by omega) (by omega)) (cls_r3 fun b hb => h _ (by omega) (by omega)) (cls_r4 fun b hb => h _ (by omega) (by omega)) (cls_r5 fun b hb => h _ (by omega) (by omega)) (cls_r6 fun b hb => h _ (by omega) (by omega)) (cls_r7 fun b hb => h _ (by omega) (by omega)) (cls_r8 ⟨h _ (by omega) (by omega), h _ (by omega) (by omega), h _ (by omega) (by omega), h _ (by omega) (by omega), h _ (by omega) (by omega), h _ (by omega) (by omega)⟩) (fun i hi => cls_hi hi)
def scA (f : N1) : N1 := upd f 8 (f 8 + 1)
def scB (f : N1) (x : Int32) : N1 := upd (scA f) 10 (scA f 10 + x)
def scC (f : N1) (x y : Int32) : N1 := upd (scB f x) 11 (scB f x 11 + y)
def scD (f : N1) (x y : Int32) (q : Nat) (w : Int32) : N1 := upd (scC f x y) q (scC f x y q + w)
def scT (f : N1) (x y : Int32) (q : Nat) (w : Int32) : N1 := upd (upd (scD f x y q w) 4 (1 - scD f x y q w 4)) 5 0
def scG (f : N1) (x y : Int32) (q : Nat) (w : Int32) : N1 := upd (upd (scD f x y q w) 9 (scD f x y q w 9 + 1)) 5 (upd (scD f x y q w) 9 (scD f x y q w 9 + 1) 5 + 1)
theorem scD_far {f : N1} {x y w : Int32} {q j : Nat} (h8 : ¬ j = 8) (h10 : ¬ j = 10) (h11 : ¬ j = 11) (hq : ¬ j = q) : scD f x y q w j = f j := by
  unfold scD scC scB scA
  rw [upd_ne hq, upd_ne h11, upd_ne h10, upd_ne h8]
theorem scD_8 {f : N1} {x y w : Int32} {q : Nat} (hq : q = 6 ∨ q = 7) : scD f x y q w 8 = f 8 + 1 := by
  unfold scD scC scB scA
  rw [upd_ne (by omega), upd_ne (by omega), upd_ne (by omega), upd_at]
theorem scD_10 {f : N1} {x y w : Int32} {q : Nat} (hq : q = 6 ∨ q = 7) : scD f x y q w 10 = f 10 + x := by
  unfold scD scC scB scA
  rw [upd_ne (by omega), upd_ne (by omega), upd_at, upd_ne (by omega)]
theorem scD_11 {f : N1} {x y w : Int32} {q : Nat} (hq : q = 6 ∨ q = 7) : scD f x y q w 11 = f 11 + y := by
  unfold scD scC scB scA
  rw [upd_ne (by omega), upd_at, upd_ne (by omega), upd_ne (by omega)]
theorem scD_q {f : N1} {x y w : Int32} {q : Nat} (hq : q = 6 ∨ q = 7) : scD f x y q w q = f q + w := by
  unfold scD scC scB scA
  rw [upd_at, upd_ne (by omega), upd_ne (by omega), upd_ne (by omega)]
theorem scT_eq {f : N1} {x y : Int32} {q : Nat} (hq : q = 6 ∨ q = 7) : ∀ j, ¬ j = 10 → ¬ j = 11 → upd (upd (upd f 8 (f 8 + 1)) 4 (1 - (upd f 8 (f 8 + 1)) 4)) 5 0 j = scT f x y q 0 j := by
  intro j h10 h11
  unfold scT
  by_cases h5 : j = 5
  · rw [h5, upd_at, upd_at]
  rw [upd_ne h5, upd_ne h5]
  by_cases h4 : j = 4
  · rw [h4, upd_at, upd_at, upd_ne (by omega), scD_far (by omega) (by omega) (by omega) (by omega)]
  rw [upd_ne h4, upd_ne h4]
  by_cases h8 : j = 8
  · rw [h8, upd_at, scD_8 hq]
  rw [upd_ne h8]
  by_cases h6 : j = q
  · rw [h6, scD_q hq, Int32.add_zero]
  · rw [scD_far h8 h10 h11 h6]
theorem scG_eq {f : N1} {x y w : Int32} {q : Nat} (hq : q = 6 ∨ q = 7) : ∀ j, ¬ j = 10 → ¬ j = 11 → upd (upd (upd (upd f 8 (f 8 + 1)) 9 ((upd f 8 (f 8 + 1)) 9 + 1)) 5 ((upd (upd f 8 (f 8 + 1)) 9 ((upd f 8 (f 8 + 1)) 9 + 1)) 5 + 1)) q ((upd (upd (upd f 8 (f 8 + 1)) 9 ((upd f 8 (f 8 + 1)) 9 + 1)) 5 ((upd (upd f 8 (f 8 + 1)) 9 ((upd f 8 (f 8 + 1)) 9 + 1)) 5 + 1)) q + w) j = scG f x y q w j := by
  intro j h10 h11
  unfold scG
  by_cases h6 : j = q
  · rw [h6, upd_at, upd_ne (show ¬ q = 5 by omega), upd_ne (show ¬ q = 9 by omega), upd_ne (show ¬ q = 8 by omega), upd_ne (show ¬ q = 5 by omega), upd_ne (show ¬ q = 9 by omega), scD_q hq]
  rw [upd_ne h6]
  by_cases h5 : j = 5
  · rw [h5, upd_at, upd_at, upd_ne (show ¬ 5 = 9 by decide), upd_ne (show ¬ 5 = 8 by decide), upd_ne (show ¬ 5 = 9 by decide), scD_far (by omega) (by omega) (by omega) (by omega)]
  rw [upd_ne h5, upd_ne h5]
  by_cases h9 : j = 9
  · rw [h9, upd_at, upd_at, upd_ne (show ¬ 9 = 8 by decide), scD_far (by omega) (by omega) (by omega) (by omega)]
  rw [upd_ne h9, upd_ne h9]
  by_cases h8 : j = 8
  · rw [h8, upd_at, scD_8 hq]
  · rw [upd_ne h8, scD_far h8 h10 h11 h6]
theorem gF_scD {f : N1} {x y w : Int32} {q : Nat} (hF : gF f) (hq : q = 6 ∨ q = 7) : gF (scD f x y q w) := gF_oth (gF_oth (gF_oth (gF_oth hF (by omega)) (by omega)) (by omega)) (by omega)
theorem gN_sc {f g : N1} (h3 : fX4_total (cls f 3) = g 10) (h4 : fX4_total (cls f 4) = g 11) (hV : ∀ b : Nat, b < 12 → (b : Int) < (f 12).toInt → ¬ f (25 + b) = 0) (hg : ∀ j, 12 ≤ j → g j = f j) : gN g := by
  unfold gN
  rw [cls_r3 (f := g) (g := f) (fun b hb => hg _ (by omega)), cls_r4 (f := g) (g := f) (fun b hb => hg _ (by omega)), hg 12 (by omega)]
  exact ⟨h3, h4, fun b hb hb2 => by rw [hg (25 + b) (by omega)]; exact hV b hb hb2⟩
theorem fin_pl : ∀ p : Fin 2, (6 + nI p.val).toNatClampNeg = 6 + p.val ∧ ¬ fX6_isPlayer (nI p.val) = 0 ∧ (nI p.val).toNatClampNeg = p.val := by decide +kernel
theorem sc_loss {f : N1} {x y : Int32} {q : Nat} (hq : q = 6 ∨ q = 7) : fX4_scoreShot (cls f) 0 = cls (scT f x y q 0) := by
  unfold fX4_scoreShot
  rw [if_pos rfl, cls_84, cls_u84]
  unfold fX4_changeTurn
  rw [cls_82, cls_u82, cls_u83]
  exact cls_but (scT_eq hq)
theorem sc_win {f : N1} {x y w : Int32} {p : Nat} (hp : p < 2) (ht : f 4 = nI p) (hw : ¬ w = 0) : fX4_scoreShot (cls f) w = cls (scG f x y (6 + p) w) := by
  obtain ⟨-, p2, p3⟩ := fin_pl ⟨p, hp⟩
  unfold fX4_scoreShot
  rw [if_neg hw, cls_84, cls_u84, cls_85, cls_u85, cls_83, cls_u83, cls_82]
  have e4 : (upd (upd (upd f 8 (f 8 + 1)) 9 ((upd f 8 (f 8 + 1)) 9 + 1)) 5 ((upd (upd f 8 (f 8 + 1)) 9 ((upd f 8 (f 8 + 1)) 9 + 1)) 5 + 1)) 4 = nI p := by
    rw [upd_ne (by decide), upd_ne (by decide), upd_ne (by decide), ht]
  rw [e4, if_neg p2, p3, cls_7 hp, cls_u7 hp]
  exact cls_but (scG_eq (by omega))
section SM
variable {hs : Int32} {σ σn : N2} {n : Int32} {o : Nat} {η : Nat → N2} {t μ : N2} {sp : UInt32}
/-- a shot tried on both sides -/
theorem try_c {σr : N2} {z d : N1} {sp2 : UInt32} {k w : Nat} {sg sn : Int32} (R : REL hs (cls (μ 0)) σn n o η t μ) (hk : k < 12) (hw : w < 6) (hcb : ¬ μ 0 (13 + k) = (-5)) (hg : 10 ≤ sg.toInt ∧ sg.toInt ≤ 999) :
    QS (fX6_tryShot hs (cls (μ 0)) σr z sp2 d (nI k) (nI w) sg sn).2.1 (fX6_tryShot hs (cls (μ 0)) σr z sp2 d (nI k) (nI w) sg sn).2.2.2 (fX6_tryShot hs (cls (μ 0)) σr z sp2 d (nI k) (nI w) sg sn).1 (fX7_shot (va_up μ 2 (fX7_copy (μ 0) (μ 2))) sp (nI k) (nI w) sg sn).2.1 ∧ (fX6_tryShot hs (cls (μ 0)) σr z sp2 d (nI k) (nI w) sg sn).2.2.1 = (fX7_shot (va_up μ 2 (fX7_copy (μ 0) (μ 2))) sp (nI k) (nI w) sg sn).2.2 ∧ fX4_valueOfBall (cls (μ 0)) ((fX6_tryShot hs (cls (μ 0)) σr z sp2 d (nI k) (nI w) sg sn).2.1 6) = (fX7_shot (va_up μ 2 (fX7_copy (μ 0) (μ 2))) sp (nI k) (nI w) sg sn).1 ∧ REL hs (cls (μ 0)) σn n o η t (va_up (fX7_shot (va_up μ 2 (fX7_copy (μ 0) (μ 2))) sp (nI k) (nI w) sg sn).2.1 0 (fX7_copy ((fX7_shot (va_up μ 2 (fX7_copy (μ 0) (μ 2))) sp (nI k) (nI w) sg sn).2.1 2) ((fX7_shot (va_up μ 2 (fX7_copy (μ 0) (μ 2))) sp (nI k) (nI w) sg sn).2.1 0))) := by
  obtain ⟨hF, hN⟩ := R.2.1
  have hT := R.2.2.1
  have P := play_c (z := z) (d := d) (sp := sp2) (sp' := sp) (sn := sn) (μ := va_up μ 2 (fX7_copy (μ 0) (μ 2))) hF hT ⟨hN.1, hN.2.1⟩ hk hw hcb hg
  have hr := (shot_rows (μ := va_up μ 2 (fX7_copy (μ 0) (μ 2))) (sp := sp) (bl := nI k) (di := nI w) (sg := sg) (sn := sn))
  have hv := play_rows (z := z) (sp := sp2) (d := d) (σ := cls (μ 0)) (bl := nI k) (di := nI w) (sg := sg) (sn := sn) (i := 1) (Or.inl rfl)
  have et : fX6_tryShot hs (cls (μ 0)) σr z sp2 d (nI k) (nI w) sg sn = ((fX3_play z sp2 d (cls (μ 0)) (nI k) (nI w) sg sn).2.2.2, (fX3_play z sp2 d (cls (μ 0)) (nI k) (nI w) sg sn).1, (fX3_play z sp2 d (cls (μ 0)) (nI k) (nI w) sg sn).2.1, (fX3_play z sp2 d (cls (μ 0)) (nI k) (nI w) sg sn).2.2.1) := rfl
  rw [et]
  have P : QS (fX3_play z sp2 d (cls (μ 0)) (nI k) (nI w) sg sn).1 (fX3_play z sp2 d (cls (μ 0)) (nI k) (nI w) sg sn).2.2.1 (fX3_play z sp2 d (cls (μ 0)) (nI k) (nI w) sg sn).2.2.2 (fX7_shot (va_up μ 2 (fX7_copy (μ 0) (μ 2))) sp (nI k) (nI w) sg sn).2.1 ∧ (fX3_play z sp2 d (cls (μ 0)) (nI k) (nI w) sg sn).2.1 = (fX7_shot (va_up μ 2 (fX7_copy (μ 0) (μ 2))) sp (nI k) (nI w) sg sn).2.2 ∧ fX4_valueOfBall (fX3_play z sp2 d (cls (μ 0)) (nI k) (nI w) sg sn).2.2.2 ((fX3_play z sp2 d (cls (μ 0)) (nI k) (nI w) sg sn).1 6) = (fX7_shot (va_up μ 2 (fX7_copy (μ 0) (μ 2))) sp (nI k) (nI w) sg sn).1 := P
  have e2 : (va_up μ 2 (fX7_copy (μ 0) (μ 2))) 2 = μ 0 := rfl
  have er : ∀ i, 3 ≤ i → (va_up μ 2 (fX7_copy (μ 0) (μ 2))) i = μ i := fun i hi => up_ne (by omega)
  generalize fX7_shot (va_up μ 2 (fX7_copy (μ 0) (μ 2))) sp (nI k) (nI w) sg sn = M at P hr ⊢
  generalize fX3_play z sp2 d (cls (μ 0)) (nI k) (nI w) sg sn = Z at P hv ⊢
  refine ⟨P.1, P.2.1, ?_, ?_⟩
  · rw [← P.2.2]
    show fX4_valueOfBall (cls (μ 0)) (Z.1 6) = fX4_valueOfBall Z.2.2.2 (Z.1 6)
    unfold fX4_valueOfBall
    rw [hv]
  · have h2 : M.2.1 2 = μ 0 := (hr.1 2 (by decide) (by decide)).trans e2
    refine REL_rows R ?_ (fun i h3 h9 => ?_) (fun j hj => ?_)
    · show M.2.1 2 = μ 0
      exact h2
    · rw [up_ne (by omega), hr.1 i (by omega) (by omega)]
      exact er i h3
    · rw [up_ne (by decide), hr.2 j (by omega), er 9 (by omega)]
theorem s_would {σr : N2} {z d : N1} {sp2 : UInt32} {bl di sg sn wt : Int32} (R : REL hs σ σn n o η t μ) : (fX6_would hs σ σr z sp2 d bl di sg sn wt).1 = (fX7_would μ sp bl di sg sn wt).1 ∧ REL hs σ σn n o η t (fX7_would μ sp bl di sg sn wt).2.1 := by
  have hσ := R.1
  have hF := R.2.1.1
  subst hσ
  have e0 : (0 : Int64).toInt = 0 := rfl
  have e5 : (5 : Int64).toInt = 5 := rfl
  have f5 : (5 : Int32).toInt = 5 := rfl
  unfold fX6_would fX7_would
  by_cases h1 : fX4_hasBall (cls (μ 0)) bl = 0
  · rw [if_pos h1, if_pos ((ball_eq hF).mpr h1)]
    exact ⟨rfl, R⟩
  · rw [if_neg h1, if_neg (fun q => h1 ((ball_eq hF).mp q))]
    obtain ⟨k, hk, rfl, hk5⟩ := ball_nI h1
    by_cases h2 : fX6_isShot di sg sn = 0
    · rw [if_pos h2, if_pos (shot_eq.mpr h2)]
      exact ⟨rfl, R⟩
    · rw [if_neg h2, if_neg (fun q => h2 (shot_eq.mp q))]
      obtain ⟨⟨w, hw, rfl⟩, hg⟩ := shot_nI h2
      obtain ⟨hQ, hsp, hval, RR⟩ := try_c (σr := σr) (z := z) (d := d) (sp2 := sp2) (sp := sp) (sn := sn) R hk hw hk5 hg
      generalize fX6_tryShot hs (cls (μ 0)) σr z sp2 d (nI k) (nI w) sg sn = P at hQ hsp hval ⊢
      generalize fX7_shot (va_up μ 2 (fX7_copy (μ 0) (μ 2))) sp (nI k) (nI w) sg sn = M at hQ hsp hval RR ⊢
      obtain ⟨q1, -, ⟨z0, -, -, z3, z4, z5, z6⟩, -⟩ := hQ
      by_cases h3 : wt < 0
      · have q : fX7_in wt.toInt64 0 5 = 0 := by rw [in_iff, e0, e5]; rw [Int32.lt_iff_toInt_lt, Int32.toInt_zero] at h3; omega
        rw [if_pos h3, if_pos q]
        exact ⟨rfl, R⟩
      · rw [if_neg h3]
        by_cases h4 : wt ≤ 5
        · have q : ¬ fX7_in wt.toInt64 0 5 = 0 := by rw [in_iff, e0, e5]; rw [Int32.lt_iff_toInt_lt, Int32.toInt_zero] at h3; rw [Int32.le_iff_toInt_le, f5] at h4; omega
          rw [if_pos h4, if_neg q]
          by_cases w0 : wt = 0
          · rw [if_pos w0, if_pos w0]
            exact ⟨z3, RR⟩
          · rw [if_neg w0, if_neg w0]
            by_cases w1 : wt = 1
            · rw [if_pos w1, if_pos w1]
              exact ⟨z4, RR⟩
            · rw [if_neg w1, if_neg w1]
              by_cases w2 : wt = 2
              · rw [if_pos w2, if_pos w2]
                exact ⟨z5, RR⟩
              · rw [if_neg w2, if_neg w2]
                by_cases w3 : wt = 3
                · rw [if_pos w3, if_pos w3]
                  exact ⟨z6, RR⟩
                · rw [if_neg w3, if_neg w3]
                  by_cases w4 : wt = 4
                  · rw [if_pos w4, if_pos w4]
                    refine ⟨?_, RR⟩
                    show fX4_cellOfBall P.1 (nI k) = M.2.1 0 (13 + nI k).toNatClampNeg
                    rw [q1, cellOf_c hk, ix13 hk]
                  · rw [if_neg w4, if_neg w4]
                    exact ⟨z0, RR⟩
        · have q : fX7_in wt.toInt64 0 5 = 0 := by rw [in_iff, e0, e5]; rw [Int32.le_iff_toInt_le, f5] at h4; omega
          rw [if_neg h4, if_pos q]
          exact ⟨rfl, R⟩
theorem s_speedLeft {σr : N2} {z d : N1} {sp2 : UInt32} {bl di sg sn : Int32} (R : REL hs σ σn n o η t μ) : (fX6_speedLeft hs σ σr z sp2 d bl di sg sn).1 = (fX7_speedLeft μ sp bl di sg sn).1 ∧ REL hs σ σn n o η t (fX7_speedLeft μ sp bl di sg sn).2.1 := by
  have hσ := R.1
  have hF := R.2.1.1
  subst hσ
  unfold fX6_speedLeft fX7_speedLeft
  by_cases h1 : fX4_hasBall (cls (μ 0)) bl = 0
  · rw [if_pos h1, if_pos ((ball_eq hF).mpr h1)]
    exact ⟨rfl, R⟩
  · rw [if_neg h1, if_neg (fun q => h1 ((ball_eq hF).mp q))]
    obtain ⟨k, hk, rfl, hk5⟩ := ball_nI h1
    by_cases h2 : fX6_isShot di sg sn = 0
    · rw [if_pos h2, if_pos (shot_eq.mpr h2)]
      exact ⟨rfl, R⟩
    · rw [if_neg h2, if_neg (fun q => h2 (shot_eq.mp q))]
      obtain ⟨⟨w, hw, rfl⟩, hg⟩ := shot_nI h2
      obtain ⟨hQ, hsp, hval, RR⟩ := try_c (σr := σr) (z := z) (d := d) (sp2 := sp2) (sp := sp) (sn := sn) R hk hw hk5 hg
      exact ⟨hsp, RR⟩
/-- the score behind a shot -/
theorem s_shoot {z d : N1} {sp2 : UInt32} {pl bl di sg sn : Int32} (R : REL hs σ σn n o η t μ) : (fX6_shoot hs σ n o η z sp2 d pl bl di sg sn).1 = (fX7_shoot μ sp pl bl di sg sn).1 ∧ REL hs (fX6_shoot hs σ n o η z sp2 d pl bl di sg sn).2.1 σn (fX6_shoot hs σ n o η z sp2 d pl bl di sg sn).2.2.1 (fX6_shoot hs σ n o η z sp2 d pl bl di sg sn).2.2.2.1 (fX6_shoot hs σ n o η z sp2 d pl bl di sg sn).2.2.2.2.1 t (fX7_shoot μ sp pl bl di sg sn).2.1 := by
  have hσ := R.1
  obtain ⟨hF, hN⟩ := R.2.1
  have hT := R.2.2.1
  subst hσ
  unfold fX6_shoot fX7_shoot
  by_cases h1 : fX6_isPlayer pl = 0
  · rw [if_pos h1, if_pos (pl_eq.mpr h1)]
    exact ⟨rfl, R⟩
  rw [if_neg h1, if_neg (fun q => h1 (pl_eq.mp q))]
  by_cases h2 : fX4_hasBall (cls (μ 0)) bl = 0
  · rw [if_pos h2, if_pos ((ball_eq hF).mpr h2)]
    exact ⟨rfl, R⟩
  rw [if_neg h2, if_neg (fun q => h2 ((ball_eq hF).mp q))]
  obtain ⟨k, hk, rfl, hk5⟩ := ball_nI h2
  by_cases h3 : fX6_isShot di sg sn = 0
  · rw [if_pos h3, if_pos (shot_eq.mpr h3)]
    exact ⟨rfl, R⟩
  rw [if_neg h3, if_neg (fun q => h3 (shot_eq.mp q)), cls_82]
  obtain ⟨⟨w, hw, rfl⟩, hg⟩ := shot_nI h3
  by_cases h4 : pl = μ 0 4
  · rw [if_pos h4, if_pos h4]
    have P := play_c (z := z) (d := d) (sp := sp2) (sp' := sp) (sn := sn) (μ := fX7_remember μ sp) hF hT ⟨hN.1, hN.2.1⟩ hk hw hk5 hg
    have hr := (shot_rows (μ := fX7_remember μ sp) (sp := sp) (bl := nI k) (di := nI w) (sg := sg) (sn := sn))
    have r1 := play_rows (z := z) (sp := sp2) (d := d) (σ := cls (μ 0)) (bl := nI k) (di := nI w) (sg := sg) (sn := sn) (i := 1) (by omega)
    have r8 := play_rows (z := z) (sp := sp2) (d := d) (σ := cls (μ 0)) (bl := nI k) (di := nI w) (sg := sg) (sn := sn) (i := 8) (by omega)
    have P : QS (fX3_play z sp2 d (cls (μ 0)) (nI k) (nI w) sg sn).1 (fX3_play z sp2 d (cls (μ 0)) (nI k) (nI w) sg sn).2.2.1 (fX3_play z sp2 d (cls (μ 0)) (nI k) (nI w) sg sn).2.2.2 (fX7_shot (fX7_remember μ sp) sp (nI k) (nI w) sg sn).2.1 ∧ (fX3_play z sp2 d (cls (μ 0)) (nI k) (nI w) sg sn).2.1 = (fX7_shot (fX7_remember μ sp) sp (nI k) (nI w) sg sn).2.2 ∧ fX4_valueOfBall (fX3_play z sp2 d (cls (μ 0)) (nI k) (nI w) sg sn).2.2.2 ((fX3_play z sp2 d (cls (μ 0)) (nI k) (nI w) sg sn).1 6) = (fX7_shot (fX7_remember μ sp) sp (nI k) (nI w) sg sn).1 := P
    generalize fX7_shot (fX7_remember μ sp) sp (nI k) (nI w) sg sn = S at P hr ⊢
    generalize fX3_play z sp2 d (cls (μ 0)) (nI k) (nI w) sg sn = Z at P r1 r8 ⊢
    obtain ⟨⟨hZ, hFf, ⟨-, -, -, -, -, -, z6⟩, ⟨t3, t4⟩, g, hgk, -, ⟨hge, hgo⟩, -⟩, -, hwon⟩ := P
    rw [hZ] at r1 r8 hwon ⊢
    rw [hwon]
    have hf1 : ∀ b, b < 12 → S.2.1 0 (25 + b) = μ 0 (25 + b) := fun b hb => by
      rw [← cls_1 (f := S.2.1 0) hb, ← cls_1 (f := μ 0) hb, r1]
    have hf12 : S.2.1 0 12 = μ 0 12 := by rw [← cls_80 (f := S.2.1 0), ← cls_80 (f := μ 0), r8]
    have hf4 : S.2.1 0 4 = μ 0 4 := by rw [← cls_82 (f := S.2.1 0), ← cls_82 (f := μ 0), r8]
    have hV : ∀ b : Nat, b < 12 → (b : Int) < (S.2.1 0 12).toInt → ¬ S.2.1 0 (25 + b) = 0 := fun b hb hb2 => by
      rw [hf1 b hb]
      exact hN.2.2 b hb (by rw [← hf12]; exact hb2)
    obtain ⟨p, hp, ep⟩ : ∃ p, p < 2 ∧ μ 0 4 = nI p := by
      rcases hF.2.2.2 with h | h
      · exact ⟨0, by decide, h⟩
      · exact ⟨1, by decide, h⟩
    have hq6 : (6 + pl).toNatClampNeg = 6 + p := by rw [h4, ep]; exact (fin_pl ⟨p, hp⟩).1
    have hpq : 6 + p = 6 ∨ 6 + p = 7 := by omega
    have s1 : S.2.1 1 = μ 0 := hr.1 1 (by decide) (by decide)
    have sr : ∀ i, 3 ≤ i → i < 9 → S.2.1 i = μ i := fun i a b => (hr.1 i (by omega) (by omega)).trans (up_ne (by omega))
    have s9 : ∀ j, j < 2 ∨ j = 10 → S.2.1 9 j = μ 9 j := fun j hj => (hr.2 j (by omega)).trans rfl
    rw [hq6]
    have key : ∀ (M' : N2) (g' : N1), (∀ i, ¬ i = 0 → M' i = S.2.1 i) → M' 0 = g' → gF g' → fX4_total (cls (S.2.1 0) 3) = g' 10 → fX4_total (cls (S.2.1 0) 4) = g' 11 → (∀ j, 12 ≤ j → g' j = S.2.1 0 j) → fX4_scoreShot (cls (S.2.1 0)) S.1 = cls g' → REL hs (fX4_scoreShot (cls (S.2.1 0)) S.1) σn (fX2_record n o η (cls (μ 0))).1 (fX2_record n o η (cls (μ 0))).2.1 (fX2_record n o η (cls (μ 0))).2.2 t (acS (acH M')) := by
      intro M' g' m1 m0 mF m10 m11 m12 me
      rw [me]
      subst m0
      exact REL_act R ((m1 1 (by decide)).trans s1) (fun i a b => (m1 i (by omega)).trans (sr i a b)) (fun j hj => by rw [m1 9 (by decide)]; exact s9 j hj) ⟨mF, gN_sc m10 m11 hV m12⟩
    by_cases h6 : S.2.1 9 6 = (-5)
    · have hw0 : S.1 = 0 := by rw [← hwon, z6, h6]; exact valOf_5
      rw [if_pos (by simp only [u2_row (show ¬ 9 = 0 by decide)]; exact h6)]
      refine ⟨rfl, ?_⟩
      refine key _ (scT (S.2.1 0) (S.2.1 9 8) (S.2.1 9 9) (6 + p) 0) (fun i hi => ?_) ?_ (gF_oth (gF_turn (gF_scD hFf hpq) ?_) (by omega)) ?_ ?_ (fun j hj => ?_) ?_
      · unfold fX7_turns
        simp only [u2_row hi]
      · rw [hw0]
        rfl
      · rw [scD_far (by omega) (by omega) (by omega) (by omega)]
        rcases hFf.2.2.2 with h | h
        · rw [h]; exact Or.inr rfl
        · rw [h]; exact Or.inl rfl
      · unfold scT
        rw [upd_ne (by omega), upd_ne (by omega), scD_10 hpq, t3]
      · unfold scT
        rw [upd_ne (by omega), upd_ne (by omega), scD_11 hpq, t4]
      · unfold scT
        rw [upd_ne (by omega), upd_ne (by omega), scD_far (by omega) (by omega) (by omega) (by omega)]
      · rw [hw0]
        exact sc_loss hpq
    · have hg6 : S.2.1 9 6 = nI g := hgo.resolve_left h6
      have hw0 : ¬ S.1 = 0 := by
        rw [← hwon, z6, hg6, valOf_c hgk]
        exact hV g hgk hge
      rw [if_neg (by simp only [u2_row (show ¬ 9 = 0 by decide)]; exact h6)]
      refine ⟨rfl, ?_⟩
      refine key _ (scG (S.2.1 0) (S.2.1 9 8) (S.2.1 9 9) (6 + p) S.1) (fun i hi => ?_) rfl (gF_oth (gF_oth (gF_scD hFf hpq) (by omega)) (by omega)) ?_ ?_ (fun j hj => ?_) ?_
      · simp only [u2_row hi]
      · unfold scG
        rw [upd_ne (by omega), upd_ne (by omega), scD_10 hpq, t3]
      · unfold scG
        rw [upd_ne (by omega), upd_ne (by omega), scD_11 hpq, t4]
      · unfold scG
        rw [upd_ne (by omega), upd_ne (by omega), scD_far (by omega) (by omega) (by omega) (by omega)]
      · exact sc_win hp (hf4.trans ep) hw0
  · rw [if_neg h4, if_neg h4]
    exact ⟨rfl, R⟩
end SM

