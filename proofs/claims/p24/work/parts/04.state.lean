/-! what the state IS: rows of numbers behind each object of the class and of the reference -/
abbrev N1 : Type := Nat → Int32
abbrev N2 : Type := Nat → Nat → Int32
def u2 (σ : N2) (i j : Nat) (x : Int32) : N2 := va_up σ i (upd (σ i) j x)
/-- State: rows 0 cellOf, 1 valueOf, 2 stepsOf, 3 banksOf, 4 hitsOf, 5 ballOn, 6 settings, 7 scores; 8: ballsSoFar, openPots, turn, run, shots, goneByShots -/
def wSt (E : Ev) (a : Nat → Nat) (σ : N2) : va_W := [(a 0, .inr (3, [.ref (a 1), .ref (a 2), .ref (a 3), .ref (a 4), .ref (a 5), .ref (a 6), .ref (a 7), .ref (a 8), .int (σ 8 0), .int (σ 8 1), .int (σ 8 2), .int (σ 8 3), .int (σ 8 4), .int (σ 8 5)])), (a 1, .inl (E.2.1.1, 12, .inl (σ 0))), (a 2, .inl (E.2.1.1, 12, .inl (σ 1))), (a 3, .inl (E.2.1.1, 12, .inl (σ 2))), (a 4, .inl (E.2.1.1, 12, .inl (σ 3))), (a 5, .inl (E.2.1.1, 12, .inl (σ 4))), (a 6, .inl (E.2.1.1, 61, .inl (σ 5))), (a 7, .inl (E.2.1.1, 3, .inl (σ 6))), (a 8, .inl (E.2.1.1, 2, .inl (σ 7)))]
/-- Walker: q, r, direction -/
def wWk (j : Nat) (d : N1) : va_W := [(j, .inr (4, [.int (d 0), .int (d 1), .int (d 2)]))]
/-- Shot: 0 mover, 1 spin, 2 thirds, 3 steps, 4 banks, 5 hits, 6 gone; its speed; its walker's address -/
def wSh (k j : Nat) (z : N1) (v : UInt32) : va_W := [(k, .inr (2, [.ref j, .int (z 0), .float v, .int (z 1), .int (z 2), .int (z 3), .int (z 4), .int (z 5), .int (z 6)]))]
/-- History: its size, its states' addresses -/
def wHy (E : Ev) (a : Nat → Nat) (n : Int32) (b : Nat → Nat) : va_W := [(a 0, .inr (1, [.ref (a 1), .int n])), (a 1, .inl (E.2.1.2.2, 4, .inr (.inr (.inr (.inr (fun i => some (b i)))))))]
/-- BallText: rows 0 characters, 1 cells, 2 values; 3: length, balls, place, number -/
def wTx (E : Ev) (a : Nat → Nat) (t : N2) : va_W := [(a 0, .inr (0, [.ref (a 1), .int (t 3 0), .ref (a 2), .ref (a 3), .int (t 3 1), .int (t 3 2), .int (t 3 3)])), (a 1, .inl (E.2.1.2.1, 60, .inl (t 0))), (a 2, .inl (E.2.1.1, 16, .inl (t 1))), (a 3, .inl (E.2.1.1, 16, .inl (t 2)))]
/-- the class's own object: addresses of state, snapshot, trial, history, text, shot; hasSnapshot -/
def wHb (h p0 p1 p2 p3 p4 p5 : Nat) (hs : Int32) : va_W := [(h, .inr (5, [.ref p0, .ref p1, .ref p2, .ref p3, .ref p4, .ref p5, .int hs]))]
/-- the reference: rows 0 all, 1 kept, 2 tried, 3 history, 4 snapshot, 5 qOf, 6 rOf, 7 at, 8 text; 9: historyLong, isTaken, moving, way, thirds, spinning, goneBall, steps, banks, hits, textLong, spot, number, cellRead, valueRead; its speed -/
def wMd (E : Ev) (a : Nat → Nat) (μ : N2) (v : UInt32) : va_W := [(a 0, .inr (6, [.ref (a 1), .ref (a 2), .ref (a 3), .ref (a 4), .int (μ 9 0), .ref (a 5), .int (μ 9 1), .ref (a 6), .ref (a 7), .ref (a 8), .int (μ 9 2), .int (μ 9 3), .int (μ 9 4), .int (μ 9 5), .float v, .int (μ 9 6), .int (μ 9 7), .int (μ 9 8), .int (μ 9 9), .ref (a 9), .int (μ 9 10), .int (μ 9 11), .int (μ 9 12), .int (μ 9 13), .int (μ 9 14)])), (a 1, .inl (E.2.1.1, 73, .inl (μ 0))), (a 2, .inl (E.2.1.1, 73, .inl (μ 1))), (a 3, .inl (E.2.1.1, 73, .inl (μ 2))), (a 4, .inl (E.2.1.1, 292, .inl (μ 3))), (a 5, .inl (E.2.1.1, 73, .inl (μ 4))), (a 6, .inl (E.2.1.1, 61, .inl (μ 5))), (a 7, .inl (E.2.1.1, 61, .inl (μ 6))), (a 8, .inl (E.2.1.1, 81, .inl (μ 7))), (a 9, .inl (E.2.1.1, 60, .inl (μ 8)))]
/-! small numbers: an index that was looked at -/
theorem vin_ge {x : Int32} {n : Nat} (N : Int32) (hN : N.toInt = n) (h0 : ¬ x < 0) (h1 : ¬ N ≤ x) : vp_in x n := by
  rw [vp_in_iff]
  rw [Int32.lt_iff_toInt_lt] at h0
  rw [Int32.le_iff_toInt_le] at h1
  rw [Int32.toInt_zero] at h0
  omega
theorem vin_lt {x : Int32} {n : Nat} (N : Int32) (hN : N.toInt = n) (h0 : ¬ x < 0) (h1 : x < N) : vp_in x n := by
  rw [vp_in_iff]
  rw [Int32.lt_iff_toInt_lt] at h0 h1
  rw [Int32.toInt_zero] at h0
  omega
theorem ne_i {x k : Int32} (h : ¬ x = k) : ¬ x.toInt = k.toInt := fun e => h (Int32.toInt_inj.mp e)
theorem vin_c {x : Int32} {n : Nat} (h : decide (¬ (x < 0 ∨ n ≤ x.toNatClampNeg)) = true) : vp_in x n := by
  have h2 : ¬ (x < 0 ∨ n ≤ x.toNatClampNeg) := of_decide_eq_true h
  exact h2
/-- a row of numbers alone -/
def wAr (E : Ev) (a : Nat) (n : Nat) (f : N1) : va_W := [(a, .inl (E.2.1.1, n, .inl f))]
theorem tab_out_2 {x : Int32} (h0 : ¬ x = 0) (h1 : ¬ x = 1) (h2 : ¬ x = 2) : x.toInt < 0 ∨ 2 < x.toInt := by
  have e0 : ¬ x.toInt = 0 := ne_i h0
  have e1 : ¬ x.toInt = 1 := ne_i h1
  have e2 : ¬ x.toInt = 2 := ne_i h2
  omega
theorem tab_out_3 {x : Int32} (h0 : ¬ x = 0) (h1 : ¬ x = 1) (h2 : ¬ x = 2) (h3 : ¬ x = 3) : x.toInt < 0 ∨ 3 < x.toInt := by
  have e0 : ¬ x.toInt = 0 := ne_i h0
  have e1 : ¬ x.toInt = 1 := ne_i h1
  have e2 : ¬ x.toInt = 2 := ne_i h2
  have e3 : ¬ x.toInt = 3 := ne_i h3
  omega
theorem tab_out_4 {x : Int32} (h0 : ¬ x = 0) (h1 : ¬ x = 1) (h2 : ¬ x = 2) (h3 : ¬ x = 3) (h4 : ¬ x = 4) : x.toInt < 0 ∨ 4 < x.toInt := by
  have e0 : ¬ x.toInt = 0 := ne_i h0
  have e1 : ¬ x.toInt = 1 := ne_i h1
  have e2 : ¬ x.toInt = 2 := ne_i h2
  have e3 : ¬ x.toInt = 3 := ne_i h3
  have e4 : ¬ x.toInt = 4 := ne_i h4
  omega
theorem tab_out_5 {x : Int32} (h0 : ¬ x = 0) (h1 : ¬ x = 1) (h2 : ¬ x = 2) (h3 : ¬ x = 3) (h4 : ¬ x = 4) (h5 : ¬ x = 5) : x.toInt < 0 ∨ 5 < x.toInt := by
  have e0 : ¬ x.toInt = 0 := ne_i h0
  have e1 : ¬ x.toInt = 1 := ne_i h1
  have e2 : ¬ x.toInt = 2 := ne_i h2
  have e3 : ¬ x.toInt = 3 := ne_i h3
  have e4 : ¬ x.toInt = 4 := ne_i h4
  have e5 : ¬ x.toInt = 5 := ne_i h5
  omega
theorem tab_out_12 {x : Int32} (h0 : ¬ x = 0) (h1 : ¬ x = 1) (h2 : ¬ x = 2) (h3 : ¬ x = 3) (h4 : ¬ x = 4) (h5 : ¬ x = 5) (h6 : ¬ x = 6) (h7 : ¬ x = 7) (h8 : ¬ x = 8) (h9 : ¬ x = 9) (h10 : ¬ x = 10) (h11 : ¬ x = 11) (h12 : ¬ x = 12) : x.toInt < 0 ∨ 12 < x.toInt := by
  have e0 : ¬ x.toInt = 0 := ne_i h0
  have e1 : ¬ x.toInt = 1 := ne_i h1
  have e2 : ¬ x.toInt = 2 := ne_i h2
  have e3 : ¬ x.toInt = 3 := ne_i h3
  have e4 : ¬ x.toInt = 4 := ne_i h4
  have e5 : ¬ x.toInt = 5 := ne_i h5
  have e6 : ¬ x.toInt = 6 := ne_i h6
  have e7 : ¬ x.toInt = 7 := ne_i h7
  have e8 : ¬ x.toInt = 8 := ne_i h8
  have e9 : ¬ x.toInt = 9 := ne_i h9
  have e10 : ¬ x.toInt = 10 := ne_i h10
  have e11 : ¬ x.toInt = 11 := ne_i h11
  have e12 : ¬ x.toInt = 12 := ne_i h12
  omega
theorem tab_out_15 {x : Int32} (h0 : ¬ x = 0) (h1 : ¬ x = 1) (h2 : ¬ x = 2) (h3 : ¬ x = 3) (h4 : ¬ x = 4) (h5 : ¬ x = 5) (h6 : ¬ x = 6) (h7 : ¬ x = 7) (h8 : ¬ x = 8) (h9 : ¬ x = 9) (h10 : ¬ x = 10) (h11 : ¬ x = 11) (h12 : ¬ x = 12) (h13 : ¬ x = 13) (h14 : ¬ x = 14) (h15 : ¬ x = 15) : x.toInt < 0 ∨ 15 < x.toInt := by
  have e0 : ¬ x.toInt = 0 := ne_i h0
  have e1 : ¬ x.toInt = 1 := ne_i h1
  have e2 : ¬ x.toInt = 2 := ne_i h2
  have e3 : ¬ x.toInt = 3 := ne_i h3
  have e4 : ¬ x.toInt = 4 := ne_i h4
  have e5 : ¬ x.toInt = 5 := ne_i h5
  have e6 : ¬ x.toInt = 6 := ne_i h6
  have e7 : ¬ x.toInt = 7 := ne_i h7
  have e8 : ¬ x.toInt = 8 := ne_i h8
  have e9 : ¬ x.toInt = 9 := ne_i h9
  have e10 : ¬ x.toInt = 10 := ne_i h10
  have e11 : ¬ x.toInt = 11 := ne_i h11
  have e12 : ¬ x.toInt = 12 := ne_i h12
  have e13 : ¬ x.toInt = 13 := ne_i h13
  have e14 : ¬ x.toInt = 14 := ne_i h14
  have e15 : ¬ x.toInt = 15 := ne_i h15
  omega
theorem tab_out_20 {x : Int32} (h0 : ¬ x = 0) (h1 : ¬ x = 1) (h2 : ¬ x = 2) (h3 : ¬ x = 3) (h4 : ¬ x = 4) (h5 : ¬ x = 5) (h6 : ¬ x = 6) (h7 : ¬ x = 7) (h8 : ¬ x = 8) (h9 : ¬ x = 9) (h10 : ¬ x = 10) (h11 : ¬ x = 11) (h12 : ¬ x = 12) (h13 : ¬ x = 13) (h14 : ¬ x = 14) (h15 : ¬ x = 15) (h16 : ¬ x = 16) (h17 : ¬ x = 17) (h18 : ¬ x = 18) (h19 : ¬ x = 19) (h20 : ¬ x = 20) : x.toInt < 0 ∨ 20 < x.toInt := by
  have e0 : ¬ x.toInt = 0 := ne_i h0
  have e1 : ¬ x.toInt = 1 := ne_i h1
  have e2 : ¬ x.toInt = 2 := ne_i h2
  have e3 : ¬ x.toInt = 3 := ne_i h3
  have e4 : ¬ x.toInt = 4 := ne_i h4
  have e5 : ¬ x.toInt = 5 := ne_i h5
  have e6 : ¬ x.toInt = 6 := ne_i h6
  have e7 : ¬ x.toInt = 7 := ne_i h7
  have e8 : ¬ x.toInt = 8 := ne_i h8
  have e9 : ¬ x.toInt = 9 := ne_i h9
  have e10 : ¬ x.toInt = 10 := ne_i h10
  have e11 : ¬ x.toInt = 11 := ne_i h11
  have e12 : ¬ x.toInt = 12 := ne_i h12
  have e13 : ¬ x.toInt = 13 := ne_i h13
  have e14 : ¬ x.toInt = 14 := ne_i h14
  have e15 : ¬ x.toInt = 15 := ne_i h15
  have e16 : ¬ x.toInt = 16 := ne_i h16
  have e17 : ¬ x.toInt = 17 := ne_i h17
  have e18 : ¬ x.toInt = 18 := ne_i h18
  have e19 : ¬ x.toInt = 19 := ne_i h19
  have e20 : ¬ x.toInt = 20 := ne_i h20
  omega
