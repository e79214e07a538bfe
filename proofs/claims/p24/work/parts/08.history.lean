/-! the history's states, at their places: states[i] is the object hh ((i + o) % 4) -/
def wHg (E : Ev) (a : Nat → Nat) (hh : Nat → Nat → Nat) (n : Int32) (f : Nat → Option Nat) (η : Nat → N2) : va_W := [(a 0, .inr (1, [.ref (a 1), .int n])), (a 1, .inl (E.2.1.2.2, 4, .inr (.inr (.inr (.inr f)))))] ++ (wSt E (hh 0) (η 0) ++ (wSt E (hh 1) (η 1) ++ (wSt E (hh 2) (η 2) ++ wSt E (hh 3) (η 3))))
def wHs (E : Ev) (a : Nat → Nat) (hh : Nat → Nat → Nat) (n : Int32) (o : Nat) (η : Nat → N2) : va_W := wHg E a hh n (fun i => some (hh ((i + o) % 4) 0)) η
def hhd (E : Ev) (a : Nat → Nat) (hh : Nat → Nat → Nat) (n : Int32) (o : Nat) : va_W := [(a 0, .inr (1, [.ref (a 1), .int n])), (a 1, .inl (E.2.1.2.2, 4, .inr (.inr (.inr (.inr (fun i => some (hh ((i + o) % 4) 0)))))))]
def hsP (j : Nat) : List Nat := [2 + 9 * j, 3 + 9 * j, 4 + 9 * j, 5 + 9 * j, 6 + 9 * j, 7 + 9 * j, 8 + 9 * j, 9 + 9 * j, 10 + 9 * j, 38, 39, 40, 41, 42, 43, 44, 45, 46]
def hsQ (j : Nat) : List Nat := [38, 39, 40, 41, 42, 43, 44, 45, 46, 2 + 9 * j, 3 + 9 * j, 4 + 9 * j, 5 + 9 * j, 6 + 9 * j, 7 + 9 * j, 8 + 9 * j, 9 + 9 * j, 10 + 9 * j]
theorem fst_St {E : Ev} {b : Nat → Nat} {σ τ : N2} : (wSt E b σ).map Prod.fst = (wSt E b τ).map Prod.fst := rfl
theorem fst_Wk {j : Nat} {d e : N1} : (wWk j d).map Prod.fst = (wWk j e).map Prod.fst := rfl
theorem fst_Sh {k j : Nat} {z z' : N1} {v v' : UInt32} : (wSh k j z v).map Prod.fst = (wSh k j z' v').map Prod.fst := rfl
theorem fst_Tx {E : Ev} {b : Nat → Nat} {σ τ : N2} : (wTx E b σ).map Prod.fst = (wTx E b τ).map Prod.fst := rfl
theorem fst_Hs {E : Ev} {a : Nat → Nat} {hh : Nat → Nat → Nat} {n n' : Int32} {o o' : Nat} {η η' : Nat → N2} : (wHs E a hh n o η).map Prod.fst = (wHs E a hh n' o' η').map Prod.fst := rfl
theorem fst_Hb {h p0 p1 p2 p3 p4 p5 : Nat} {s s' : Int32} : (wHb h p0 p1 p2 p3 p4 p5 s).map Prod.fst = (wHb h p0 p1 p2 p3 p4 p5 s').map Prod.fst := rfl
section HS
variable {E : Ev} {a sa : Nat → Nat} {hh : Nat → Nat → Nat} {n : Int32} {o : Nat} {η : Nat → N2} {σ : N2}
theorem hsPC {j : Nat} (hj : j < 4) : (hsP j).map (fun i => (wHs E a hh n o η ++ wSt E sa σ)[i]?) = (wSt E (hh j) (η j) ++ wSt E sa σ).map some := by
  match j, hj with
  | 0, _ =>
    have e1 : wHs E a hh n o η ++ wSt E sa σ = (hhd E a hh n o) ++ (wSt E (hh 0) (η 0) ++ (wSt E (hh 1) (η 1) ++ (wSt E (hh 2) (η 2) ++ (wSt E (hh 3) (η 3) ++ (wSt E sa σ))))) := by simp only [wHs, wHg, hhd, List.append_assoc]
    have e2 : wHs E a hh n o η ++ wSt E sa σ = (hhd E a hh n o ++ (wSt E (hh 0) (η 0) ++ (wSt E (hh 1) (η 1) ++ (wSt E (hh 2) (η 2) ++ (wSt E (hh 3) (η 3)))))) ++ (wSt E sa σ ++ []) := by simp only [wHs, wHg, hhd, List.append_assoc, List.append_nil]
    exact get_app (is1 := rg 2 9) (is2 := rg 38 9) (by rw [e1]; exact get1 (s := 2) (n := 9) rfl rfl) (by rw [e2]; exact get1 (s := 38) (n := 9) rfl rfl)
  | 1, _ =>
    have e1 : wHs E a hh n o η ++ wSt E sa σ = (hhd E a hh n o ++ (wSt E (hh 0) (η 0))) ++ (wSt E (hh 1) (η 1) ++ (wSt E (hh 2) (η 2) ++ (wSt E (hh 3) (η 3) ++ (wSt E sa σ)))) := by simp only [wHs, wHg, hhd, List.append_assoc]
    have e2 : wHs E a hh n o η ++ wSt E sa σ = (hhd E a hh n o ++ (wSt E (hh 0) (η 0) ++ (wSt E (hh 1) (η 1) ++ (wSt E (hh 2) (η 2) ++ (wSt E (hh 3) (η 3)))))) ++ (wSt E sa σ ++ []) := by simp only [wHs, wHg, hhd, List.append_assoc, List.append_nil]
    exact get_app (is1 := rg 11 9) (is2 := rg 38 9) (by rw [e1]; exact get1 (s := 11) (n := 9) rfl rfl) (by rw [e2]; exact get1 (s := 38) (n := 9) rfl rfl)
  | 2, _ =>
    have e1 : wHs E a hh n o η ++ wSt E sa σ = (hhd E a hh n o ++ (wSt E (hh 0) (η 0) ++ (wSt E (hh 1) (η 1)))) ++ (wSt E (hh 2) (η 2) ++ (wSt E (hh 3) (η 3) ++ (wSt E sa σ))) := by simp only [wHs, wHg, hhd, List.append_assoc]
    have e2 : wHs E a hh n o η ++ wSt E sa σ = (hhd E a hh n o ++ (wSt E (hh 0) (η 0) ++ (wSt E (hh 1) (η 1) ++ (wSt E (hh 2) (η 2) ++ (wSt E (hh 3) (η 3)))))) ++ (wSt E sa σ ++ []) := by simp only [wHs, wHg, hhd, List.append_assoc, List.append_nil]
    exact get_app (is1 := rg 20 9) (is2 := rg 38 9) (by rw [e1]; exact get1 (s := 20) (n := 9) rfl rfl) (by rw [e2]; exact get1 (s := 38) (n := 9) rfl rfl)
  | 3, _ =>
    have e1 : wHs E a hh n o η ++ wSt E sa σ = (hhd E a hh n o ++ (wSt E (hh 0) (η 0) ++ (wSt E (hh 1) (η 1) ++ (wSt E (hh 2) (η 2))))) ++ (wSt E (hh 3) (η 3) ++ (wSt E sa σ)) := by simp only [wHs, wHg, hhd, List.append_assoc]
    have e2 : wHs E a hh n o η ++ wSt E sa σ = (hhd E a hh n o ++ (wSt E (hh 0) (η 0) ++ (wSt E (hh 1) (η 1) ++ (wSt E (hh 2) (η 2) ++ (wSt E (hh 3) (η 3)))))) ++ (wSt E sa σ ++ []) := by simp only [wHs, wHg, hhd, List.append_assoc, List.append_nil]
    exact get_app (is1 := rg 29 9) (is2 := rg 38 9) (by rw [e1]; exact get1 (s := 29) (n := 9) rfl rfl) (by rw [e2]; exact get1 (s := 38) (n := 9) rfl rfl)
theorem hsQC {j : Nat} (hj : j < 4) : (hsQ j).map (fun i => (wHs E a hh n o η ++ wSt E sa σ)[i]?) = (wSt E sa σ ++ wSt E (hh j) (η j)).map some := by
  match j, hj with
  | 0, _ =>
    have e1 : wHs E a hh n o η ++ wSt E sa σ = (hhd E a hh n o) ++ (wSt E (hh 0) (η 0) ++ (wSt E (hh 1) (η 1) ++ (wSt E (hh 2) (η 2) ++ (wSt E (hh 3) (η 3) ++ (wSt E sa σ))))) := by simp only [wHs, wHg, hhd, List.append_assoc]
    have e2 : wHs E a hh n o η ++ wSt E sa σ = (hhd E a hh n o ++ (wSt E (hh 0) (η 0) ++ (wSt E (hh 1) (η 1) ++ (wSt E (hh 2) (η 2) ++ (wSt E (hh 3) (η 3)))))) ++ (wSt E sa σ ++ []) := by simp only [wHs, wHg, hhd, List.append_assoc, List.append_nil]
    exact get_app (is1 := rg 38 9) (is2 := rg 2 9) (by rw [e2]; exact get1 (s := 38) (n := 9) rfl rfl) (by rw [e1]; exact get1 (s := 2) (n := 9) rfl rfl)
  | 1, _ =>
    have e1 : wHs E a hh n o η ++ wSt E sa σ = (hhd E a hh n o ++ (wSt E (hh 0) (η 0))) ++ (wSt E (hh 1) (η 1) ++ (wSt E (hh 2) (η 2) ++ (wSt E (hh 3) (η 3) ++ (wSt E sa σ)))) := by simp only [wHs, wHg, hhd, List.append_assoc]
    have e2 : wHs E a hh n o η ++ wSt E sa σ = (hhd E a hh n o ++ (wSt E (hh 0) (η 0) ++ (wSt E (hh 1) (η 1) ++ (wSt E (hh 2) (η 2) ++ (wSt E (hh 3) (η 3)))))) ++ (wSt E sa σ ++ []) := by simp only [wHs, wHg, hhd, List.append_assoc, List.append_nil]
    exact get_app (is1 := rg 38 9) (is2 := rg 11 9) (by rw [e2]; exact get1 (s := 38) (n := 9) rfl rfl) (by rw [e1]; exact get1 (s := 11) (n := 9) rfl rfl)
  | 2, _ =>
    have e1 : wHs E a hh n o η ++ wSt E sa σ = (hhd E a hh n o ++ (wSt E (hh 0) (η 0) ++ (wSt E (hh 1) (η 1)))) ++ (wSt E (hh 2) (η 2) ++ (wSt E (hh 3) (η 3) ++ (wSt E sa σ))) := by simp only [wHs, wHg, hhd, List.append_assoc]
    have e2 : wHs E a hh n o η ++ wSt E sa σ = (hhd E a hh n o ++ (wSt E (hh 0) (η 0) ++ (wSt E (hh 1) (η 1) ++ (wSt E (hh 2) (η 2) ++ (wSt E (hh 3) (η 3)))))) ++ (wSt E sa σ ++ []) := by simp only [wHs, wHg, hhd, List.append_assoc, List.append_nil]
    exact get_app (is1 := rg 38 9) (is2 := rg 20 9) (by rw [e2]; exact get1 (s := 38) (n := 9) rfl rfl) (by rw [e1]; exact get1 (s := 20) (n := 9) rfl rfl)
  | 3, _ =>
    have e1 : wHs E a hh n o η ++ wSt E sa σ = (hhd E a hh n o ++ (wSt E (hh 0) (η 0) ++ (wSt E (hh 1) (η 1) ++ (wSt E (hh 2) (η 2))))) ++ (wSt E (hh 3) (η 3) ++ (wSt E sa σ)) := by simp only [wHs, wHg, hhd, List.append_assoc]
    have e2 : wHs E a hh n o η ++ wSt E sa σ = (hhd E a hh n o ++ (wSt E (hh 0) (η 0) ++ (wSt E (hh 1) (η 1) ++ (wSt E (hh 2) (η 2) ++ (wSt E (hh 3) (η 3)))))) ++ (wSt E sa σ ++ []) := by simp only [wHs, wHg, hhd, List.append_assoc, List.append_nil]
    exact get_app (is1 := rg 38 9) (is2 := rg 29 9) (by rw [e2]; exact get1 (s := 38) (n := 9) rfl rfl) (by rw [e1]; exact get1 (s := 29) (n := 9) rfl rfl)
theorem hsPN {j : Nat} (hj : j < 4) : va_nd (hsP j) = true := by
  match j, hj with
  | 0, _ => rfl
  | 1, _ => rfl
  | 2, _ => rfl
  | 3, _ => rfl
theorem hsQN {j : Nat} (hj : j < 4) : va_nd (hsQ j) = true := by
  match j, hj with
  | 0, _ => rfl
  | 1, _ => rfl
  | 2, _ => rfl
  | 3, _ => rfl
theorem st_fst {b : Nat → Nat} {σ τ : N2} : (wSt E b σ).map Prod.fst = (wSt E b τ).map Prod.fst := rfl
theorem hsA {b c : Nat → Nat} {σ τ σ' τ' : N2} : (wSt E b σ ++ wSt E c τ).map Prod.fst = (wSt E b σ' ++ wSt E c τ').map Prod.fst := rfl
theorem hsPW {j : Nat} (hj : j < 4) {τ τ' : N2} : wput (wHs E a hh n o η ++ wSt E sa σ) (hsP j) (wSt E (hh j) τ ++ wSt E sa τ') = wHs E a hh n o (va_up η j τ) ++ wSt E sa τ' := by
  match j, hj with
  | 0, _ =>
    have e1 : wHs E a hh n o η ++ wSt E sa σ = (hhd E a hh n o) ++ (wSt E (hh 0) (η 0) ++ (wSt E (hh 1) (η 1) ++ (wSt E (hh 2) (η 2) ++ (wSt E (hh 3) (η 3) ++ (wSt E sa σ))))) := by simp only [wHs, wHg, hhd, List.append_assoc]
    have e2 : wHs E a hh n o η ++ wSt E sa σ = (hhd E a hh n o ++ (wSt E (hh 0) (η 0) ++ (wSt E (hh 1) (η 1) ++ (wSt E (hh 2) (η 2) ++ (wSt E (hh 3) (η 3)))))) ++ (wSt E sa σ ++ []) := by simp only [wHs, wHg, hhd, List.append_assoc, List.append_nil]
    show wput (wHs E a hh n o η ++ wSt E sa σ) (rg 2 9 ++ rg 38 9) (wSt E (hh 0) τ ++ wSt E sa τ') = _
    rw [wput_app rfl, e1, put1 (s := 2) (n := 9) rfl rfl rfl]
    rw [show (hhd E a hh n o) ++ (wSt E (hh 0) τ ++ (wSt E (hh 1) (η 1) ++ (wSt E (hh 2) (η 2) ++ (wSt E (hh 3) (η 3) ++ (wSt E sa σ))))) = (hhd E a hh n o ++ (wSt E (hh 0) τ ++ (wSt E (hh 1) (η 1) ++ (wSt E (hh 2) (η 2) ++ (wSt E (hh 3) (η 3)))))) ++ (wSt E sa σ ++ []) by simp only [List.append_assoc, List.append_nil], put1 (s := 38) (n := 9) rfl rfl rfl]
    show _ = wHg E a hh n (fun i => some (hh ((i + o) % 4) 0)) (va_up η 0 τ) ++ wSt E sa τ'
    simp only [wHg, hhd, List.append_assoc, List.append_nil]
    rfl
  | 1, _ =>
    have e1 : wHs E a hh n o η ++ wSt E sa σ = (hhd E a hh n o ++ (wSt E (hh 0) (η 0))) ++ (wSt E (hh 1) (η 1) ++ (wSt E (hh 2) (η 2) ++ (wSt E (hh 3) (η 3) ++ (wSt E sa σ)))) := by simp only [wHs, wHg, hhd, List.append_assoc]
    have e2 : wHs E a hh n o η ++ wSt E sa σ = (hhd E a hh n o ++ (wSt E (hh 0) (η 0) ++ (wSt E (hh 1) (η 1) ++ (wSt E (hh 2) (η 2) ++ (wSt E (hh 3) (η 3)))))) ++ (wSt E sa σ ++ []) := by simp only [wHs, wHg, hhd, List.append_assoc, List.append_nil]
    show wput (wHs E a hh n o η ++ wSt E sa σ) (rg 11 9 ++ rg 38 9) (wSt E (hh 1) τ ++ wSt E sa τ') = _
    rw [wput_app rfl, e1, put1 (s := 11) (n := 9) rfl rfl rfl]
    rw [show (hhd E a hh n o ++ (wSt E (hh 0) (η 0))) ++ (wSt E (hh 1) τ ++ (wSt E (hh 2) (η 2) ++ (wSt E (hh 3) (η 3) ++ (wSt E sa σ)))) = (hhd E a hh n o ++ (wSt E (hh 0) (η 0) ++ (wSt E (hh 1) τ ++ (wSt E (hh 2) (η 2) ++ (wSt E (hh 3) (η 3)))))) ++ (wSt E sa σ ++ []) by simp only [List.append_assoc, List.append_nil], put1 (s := 38) (n := 9) rfl rfl rfl]
    show _ = wHg E a hh n (fun i => some (hh ((i + o) % 4) 0)) (va_up η 1 τ) ++ wSt E sa τ'
    simp only [wHg, hhd, List.append_assoc, List.append_nil]
    rfl
  | 2, _ =>
    have e1 : wHs E a hh n o η ++ wSt E sa σ = (hhd E a hh n o ++ (wSt E (hh 0) (η 0) ++ (wSt E (hh 1) (η 1)))) ++ (wSt E (hh 2) (η 2) ++ (wSt E (hh 3) (η 3) ++ (wSt E sa σ))) := by simp only [wHs, wHg, hhd, List.append_assoc]
    have e2 : wHs E a hh n o η ++ wSt E sa σ = (hhd E a hh n o ++ (wSt E (hh 0) (η 0) ++ (wSt E (hh 1) (η 1) ++ (wSt E (hh 2) (η 2) ++ (wSt E (hh 3) (η 3)))))) ++ (wSt E sa σ ++ []) := by simp only [wHs, wHg, hhd, List.append_assoc, List.append_nil]
    show wput (wHs E a hh n o η ++ wSt E sa σ) (rg 20 9 ++ rg 38 9) (wSt E (hh 2) τ ++ wSt E sa τ') = _
    rw [wput_app rfl, e1, put1 (s := 20) (n := 9) rfl rfl rfl]
    rw [show (hhd E a hh n o ++ (wSt E (hh 0) (η 0) ++ (wSt E (hh 1) (η 1)))) ++ (wSt E (hh 2) τ ++ (wSt E (hh 3) (η 3) ++ (wSt E sa σ))) = (hhd E a hh n o ++ (wSt E (hh 0) (η 0) ++ (wSt E (hh 1) (η 1) ++ (wSt E (hh 2) τ ++ (wSt E (hh 3) (η 3)))))) ++ (wSt E sa σ ++ []) by simp only [List.append_assoc, List.append_nil], put1 (s := 38) (n := 9) rfl rfl rfl]
    show _ = wHg E a hh n (fun i => some (hh ((i + o) % 4) 0)) (va_up η 2 τ) ++ wSt E sa τ'
    simp only [wHg, hhd, List.append_assoc, List.append_nil]
    rfl
  | 3, _ =>
    have e1 : wHs E a hh n o η ++ wSt E sa σ = (hhd E a hh n o ++ (wSt E (hh 0) (η 0) ++ (wSt E (hh 1) (η 1) ++ (wSt E (hh 2) (η 2))))) ++ (wSt E (hh 3) (η 3) ++ (wSt E sa σ)) := by simp only [wHs, wHg, hhd, List.append_assoc]
    have e2 : wHs E a hh n o η ++ wSt E sa σ = (hhd E a hh n o ++ (wSt E (hh 0) (η 0) ++ (wSt E (hh 1) (η 1) ++ (wSt E (hh 2) (η 2) ++ (wSt E (hh 3) (η 3)))))) ++ (wSt E sa σ ++ []) := by simp only [wHs, wHg, hhd, List.append_assoc, List.append_nil]
    show wput (wHs E a hh n o η ++ wSt E sa σ) (rg 29 9 ++ rg 38 9) (wSt E (hh 3) τ ++ wSt E sa τ') = _
    rw [wput_app rfl, e1, put1 (s := 29) (n := 9) rfl rfl rfl]
    rw [show (hhd E a hh n o ++ (wSt E (hh 0) (η 0) ++ (wSt E (hh 1) (η 1) ++ (wSt E (hh 2) (η 2))))) ++ (wSt E (hh 3) τ ++ (wSt E sa σ)) = (hhd E a hh n o ++ (wSt E (hh 0) (η 0) ++ (wSt E (hh 1) (η 1) ++ (wSt E (hh 2) (η 2) ++ (wSt E (hh 3) τ))))) ++ (wSt E sa σ ++ []) by simp only [List.append_assoc, List.append_nil], put1 (s := 38) (n := 9) rfl rfl rfl]
    show _ = wHg E a hh n (fun i => some (hh ((i + o) % 4) 0)) (va_up η 3 τ) ++ wSt E sa τ'
    simp only [wHg, hhd, List.append_assoc, List.append_nil]
    rfl
theorem up_self {α : Type} (η : Nat → α) (j : Nat) : va_up η j (η j) = η := by
  funext i
  by_cases h : i = j
  · subst h; simp [va_up]
  · simp [va_up, h]
theorem hsQW {j : Nat} (hj : j < 4) {τ : N2} : wput (wHs E a hh n o η ++ wSt E sa σ) (hsQ j) (wSt E sa τ ++ wSt E (hh j) (η j)) = wHs E a hh n o η ++ wSt E sa τ := by
  match j, hj with
  | 0, _ =>
    have e1 : wHs E a hh n o η ++ wSt E sa σ = (hhd E a hh n o) ++ (wSt E (hh 0) (η 0) ++ (wSt E (hh 1) (η 1) ++ (wSt E (hh 2) (η 2) ++ (wSt E (hh 3) (η 3) ++ (wSt E sa σ))))) := by simp only [wHs, wHg, hhd, List.append_assoc]
    have e2 : wHs E a hh n o η ++ wSt E sa σ = (hhd E a hh n o ++ (wSt E (hh 0) (η 0) ++ (wSt E (hh 1) (η 1) ++ (wSt E (hh 2) (η 2) ++ (wSt E (hh 3) (η 3)))))) ++ (wSt E sa σ ++ []) := by simp only [wHs, wHg, hhd, List.append_assoc, List.append_nil]
    show wput (wHs E a hh n o η ++ wSt E sa σ) (rg 38 9 ++ rg 2 9) (wSt E sa τ ++ wSt E (hh 0) (η 0)) = _
    rw [wput_app rfl, e2, put1 (s := 38) (n := 9) rfl rfl rfl]
    rw [show (hhd E a hh n o ++ (wSt E (hh 0) (η 0) ++ (wSt E (hh 1) (η 1) ++ (wSt E (hh 2) (η 2) ++ (wSt E (hh 3) (η 3)))))) ++ (wSt E sa τ ++ []) = (hhd E a hh n o) ++ (wSt E (hh 0) (η 0) ++ (wSt E (hh 1) (η 1) ++ (wSt E (hh 2) (η 2) ++ (wSt E (hh 3) (η 3) ++ (wSt E sa τ))))) by simp only [List.append_assoc, List.append_nil], put1 (s := 2) (n := 9) rfl rfl rfl]
    simp only [wHs, wHg, hhd, List.append_assoc]
  | 1, _ =>
    have e1 : wHs E a hh n o η ++ wSt E sa σ = (hhd E a hh n o ++ (wSt E (hh 0) (η 0))) ++ (wSt E (hh 1) (η 1) ++ (wSt E (hh 2) (η 2) ++ (wSt E (hh 3) (η 3) ++ (wSt E sa σ)))) := by simp only [wHs, wHg, hhd, List.append_assoc]
    have e2 : wHs E a hh n o η ++ wSt E sa σ = (hhd E a hh n o ++ (wSt E (hh 0) (η 0) ++ (wSt E (hh 1) (η 1) ++ (wSt E (hh 2) (η 2) ++ (wSt E (hh 3) (η 3)))))) ++ (wSt E sa σ ++ []) := by simp only [wHs, wHg, hhd, List.append_assoc, List.append_nil]
    show wput (wHs E a hh n o η ++ wSt E sa σ) (rg 38 9 ++ rg 11 9) (wSt E sa τ ++ wSt E (hh 1) (η 1)) = _
    rw [wput_app rfl, e2, put1 (s := 38) (n := 9) rfl rfl rfl]
    rw [show (hhd E a hh n o ++ (wSt E (hh 0) (η 0) ++ (wSt E (hh 1) (η 1) ++ (wSt E (hh 2) (η 2) ++ (wSt E (hh 3) (η 3)))))) ++ (wSt E sa τ ++ []) = (hhd E a hh n o ++ (wSt E (hh 0) (η 0))) ++ (wSt E (hh 1) (η 1) ++ (wSt E (hh 2) (η 2) ++ (wSt E (hh 3) (η 3) ++ (wSt E sa τ)))) by simp only [List.append_assoc, List.append_nil], put1 (s := 11) (n := 9) rfl rfl rfl]
    simp only [wHs, wHg, hhd, List.append_assoc]
  | 2, _ =>
    have e1 : wHs E a hh n o η ++ wSt E sa σ = (hhd E a hh n o ++ (wSt E (hh 0) (η 0) ++ (wSt E (hh 1) (η 1)))) ++ (wSt E (hh 2) (η 2) ++ (wSt E (hh 3) (η 3) ++ (wSt E sa σ))) := by simp only [wHs, wHg, hhd, List.append_assoc]
    have e2 : wHs E a hh n o η ++ wSt E sa σ = (hhd E a hh n o ++ (wSt E (hh 0) (η 0) ++ (wSt E (hh 1) (η 1) ++ (wSt E (hh 2) (η 2) ++ (wSt E (hh 3) (η 3)))))) ++ (wSt E sa σ ++ []) := by simp only [wHs, wHg, hhd, List.append_assoc, List.append_nil]
    show wput (wHs E a hh n o η ++ wSt E sa σ) (rg 38 9 ++ rg 20 9) (wSt E sa τ ++ wSt E (hh 2) (η 2)) = _
    rw [wput_app rfl, e2, put1 (s := 38) (n := 9) rfl rfl rfl]
    rw [show (hhd E a hh n o ++ (wSt E (hh 0) (η 0) ++ (wSt E (hh 1) (η 1) ++ (wSt E (hh 2) (η 2) ++ (wSt E (hh 3) (η 3)))))) ++ (wSt E sa τ ++ []) = (hhd E a hh n o ++ (wSt E (hh 0) (η 0) ++ (wSt E (hh 1) (η 1)))) ++ (wSt E (hh 2) (η 2) ++ (wSt E (hh 3) (η 3) ++ (wSt E sa τ))) by simp only [List.append_assoc, List.append_nil], put1 (s := 20) (n := 9) rfl rfl rfl]
    simp only [wHs, wHg, hhd, List.append_assoc]
  | 3, _ =>
    have e1 : wHs E a hh n o η ++ wSt E sa σ = (hhd E a hh n o ++ (wSt E (hh 0) (η 0) ++ (wSt E (hh 1) (η 1) ++ (wSt E (hh 2) (η 2))))) ++ (wSt E (hh 3) (η 3) ++ (wSt E sa σ)) := by simp only [wHs, wHg, hhd, List.append_assoc]
    have e2 : wHs E a hh n o η ++ wSt E sa σ = (hhd E a hh n o ++ (wSt E (hh 0) (η 0) ++ (wSt E (hh 1) (η 1) ++ (wSt E (hh 2) (η 2) ++ (wSt E (hh 3) (η 3)))))) ++ (wSt E sa σ ++ []) := by simp only [wHs, wHg, hhd, List.append_assoc, List.append_nil]
    show wput (wHs E a hh n o η ++ wSt E sa σ) (rg 38 9 ++ rg 29 9) (wSt E sa τ ++ wSt E (hh 3) (η 3)) = _
    rw [wput_app rfl, e2, put1 (s := 38) (n := 9) rfl rfl rfl]
    rw [show (hhd E a hh n o ++ (wSt E (hh 0) (η 0) ++ (wSt E (hh 1) (η 1) ++ (wSt E (hh 2) (η 2) ++ (wSt E (hh 3) (η 3)))))) ++ (wSt E sa τ ++ []) = (hhd E a hh n o ++ (wSt E (hh 0) (η 0) ++ (wSt E (hh 1) (η 1) ++ (wSt E (hh 2) (η 2))))) ++ (wSt E (hh 3) (η 3) ++ (wSt E sa τ)) by simp only [List.append_assoc, List.append_nil], put1 (s := 29) (n := 9) rfl rfl rfl]
    simp only [wHs, wHg, hhd, List.append_assoc]
theorem hsO {f : Nat → Option Nat} {j : Nat} (hj : j < 4) : (wHg E a hh n f η)[2 + 9 * j]? = some (hh j 0, .inr (3, [.ref (hh j 1), .ref (hh j 2), .ref (hh j 3), .ref (hh j 4), .ref (hh j 5), .ref (hh j 6), .ref (hh j 7), .ref (hh j 8), .int (η j 8 0), .int (η j 8 1), .int (η j 8 2), .int (η j 8 3), .int (η j 8 4), .int (η j 8 5)])) := by
  match j, hj with
  | 0, _ => rfl
  | 1, _ => rfl
  | 2, _ => rfl
  | 3, _ => rfl
theorem hs_in {n : Int32} (h0 : ¬ n < 1) (h1 : n ≤ 4) : vp_in (n - 1) 4 := by
  have e1 : (1 : Int32).toInt = 1 := rfl
  have e4 : (4 : Int32).toInt = 4 := rfl
  rw [Int32.lt_iff_toInt_lt, e1] at h0
  rw [Int32.le_iff_toInt_le, e4] at h1
  rw [vp_in_iff, ti_sub (by omega) (by omega)]
  omega
end HS
theorem arr_extq {cA : ClassId} {n : Nat} {f g : Nat → Option Nat} (h : ∀ j : Nat, j < n → f j = g j) : vp_cell cA (n, .inr (.inr (.inr (.inr f)))) = vp_cell cA (n, .inr (.inr (.inr (.inr g)))) := by
  rw [vp_cell_q, vp_cell_q]
  unfold arrV
  congr 1
  apply Array.ext
  · simp
  · intro j h1 h2
    simp at h1 ⊢
    rw [h j (by simpa using h1)]
theorem Wd.arrq {E : Ev} {A : Nat → Prop} {s : State} {ws : va_W} {H : Heap} {locs : List Loc} (w : Wd E A s ws H locs) (q0 : Nat) {a : Nat} {cA : ClassId} {n : Nat} {f : Nat → Option Nat} (g : Nat → Option Nat) (ha : ws[q0]? = some (a, .inl (cA, n, .inr (.inr (.inr (.inr f)))))) (h : ∀ j : Nat, j < n → f j = g j) : Wd E A s (ws.set q0 (a, .inl (cA, n, .inr (.inr (.inr (.inr g)))))) H locs := by
  obtain ⟨hP, hD, hS⟩ := w
  refine ⟨hP.set hD ha ?_ (fun _ _ => rfl), hD.set ha, hS⟩
  have h0 := hP q0 _ ha
  show H[a]? = some (vp_cell cA (n, .inr (.inr (.inr (.inr g)))))
  rw [← arr_extq h]
  exact h0
section RQ
variable {p : Program} {l : Launch} {e : Env} {R : Room} {s : State} {m : MethodId} {args : Array Value} {below : List Frame} {meth : Method} {c : Code} {H : Heap} {locs : List Loc} {cells slots : Nat} {Q : State → Prop}
variable {cc : ByteArray} {nL : Nat} {own : String} {E : Ev} {A : Nat → Prop} {ws : va_W} {pc : Nat} {ls : Array Slot} {rest st0 : List Value} {a : Nat}
theorem r_astq (X : Cx p m meth c cc nL s args own E A) (w : Wd E A s ws H locs) (ws' : va_W) (q0 qk : Nat) {n v : Nat} {vs : List Value} {f : Nat → Option Nat} (ha : ws[q0]? = some (a, .inl (E.2.1.2.2, n, .inr (.inr (.inr (.inr f)))))) (hv : ws[qk]? = some (v, .inr (3, vs))) {i : Int32} (hin : vp_in i n) (hw : ws.set q0 (a, .inl (E.2.1.2.2, n, .inr (.inr (.inr (.inr (va_up f i.toNatClampNeg (some v))))))) = ws') (hdg : decode cc pc = .ok (.aastore, 1))
    (kk : ∀ (H1 : Heap) (locs1 : List Loc), Wd E A s ws' H1 locs1 → W p l e R s m args below meth c H1 locs1 cells slots Q (F0 m (pc + 1) ls rest)) : W p l e R s m args below meth c H locs cells slots Q (F0 m pc ls (.ref v :: .int i :: .ref a :: rest)) := by
  subst hw
  exact va_astq X.1 X.2.1 X.2.2.2.2.2.1 w.1 w.2.1 w.2.2 q0 2 qk 3 (r := (RX4, TX4, 14)) ha rfl hv rfl hin hdg (fun H1 locs1 h1 h2 h3 => kk H1 locs1 ⟨h1, h2, h3⟩)
end RQ
/-! the text, read -/
def rdF (t : N2) : Int32 × N2 := if t 3 2 = 3 then ((-1), (fX0_endBall t).2) else (t 3 0, t)
def rdN : Nat → Nat → N2 → Int32 × N2
  | 0, _, t => rdF t
  | n + 1, k, t => if t 3 0 ≤ nI k then rdF t else if (fX0_takes t (t 0 (nI k).toNatClampNeg)).1 = 0 then (nI k, (fX0_takes t (t 0 (nI k).toNatClampNeg)).2) else rdN n (k + 1) (fX0_takes t (t 0 (nI k).toNatClampNeg)).2
def fX0_read (t : N2) : Int32 × N2 := rdN 60 0 (u2 (u2 t 3 1 0) 3 2 0)

theorem dX0_read_0 : decode cX0_read 0 = .ok (.aload_n 0, 1) := by decide +kernel
theorem dX0_read_1 : decode cX0_read 1 = .ok (.iconst 0, 1) := by decide +kernel
theorem dX0_read_2 : decode cX0_read 2 = .ok (.putfield 26, 3) := by decide +kernel
theorem dX0_read_5 : decode cX0_read 5 = .ok (.aload_n 0, 1) := by decide +kernel
theorem dX0_read_6 : decode cX0_read 6 = .ok (.iconst 0, 1) := by decide +kernel
theorem dX0_read_7 : decode cX0_read 7 = .ok (.putfield 29, 3) := by decide +kernel
theorem dX0_read_10 : decode cX0_read 10 = .ok (.iconst 0, 1) := by decide +kernel
theorem dX0_read_11 : decode cX0_read 11 = .ok (.istore_n 1, 1) := by decide +kernel
theorem dX0_read_12 : decode cX0_read 12 = .ok (.iload_n 1, 1) := by decide +kernel
theorem dX0_read_13 : decode cX0_read 13 = .ok (.aload_n 0, 1) := by decide +kernel
theorem dX0_read_14 : decode cX0_read 14 = .ok (.getfield 22, 3) := by decide +kernel
theorem dX0_read_17 : decode cX0_read 17 = .ok (.if_icmp .ge 30, 3) := by decide +kernel
theorem dX0_read_20 : decode cX0_read 20 = .ok (.iload_n 1, 1) := by decide +kernel
theorem dX0_read_21 : decode cX0_read 21 = .ok (.bipush 60, 2) := by decide +kernel
theorem dX0_read_23 : decode cX0_read 23 = .ok (.if_icmp .ge 24, 3) := by decide +kernel
theorem dX0_read_26 : decode cX0_read 26 = .ok (.aload_n 0, 1) := by decide +kernel
theorem dX0_read_27 : decode cX0_read 27 = .ok (.aload_n 0, 1) := by decide +kernel
theorem dX0_read_28 : decode cX0_read 28 = .ok (.getfield 11, 3) := by decide +kernel
theorem dX0_read_31 : decode cX0_read 31 = .ok (.iload_n 1, 1) := by decide +kernel
theorem dX0_read_32 : decode cX0_read 32 = .ok (.caload, 1) := by decide +kernel
theorem dX0_read_33 : decode cX0_read 33 = .ok (.invokevirtual 32, 3) := by decide +kernel
theorem dX0_read_36 : decode cX0_read 36 = .ok (.ifCond .ne 5, 3) := by decide +kernel
theorem dX0_read_39 : decode cX0_read 39 = .ok (.iload_n 1, 1) := by decide +kernel
theorem dX0_read_40 : decode cX0_read 40 = .ok (.ireturn, 1) := by decide +kernel
theorem dX0_read_41 : decode cX0_read 41 = .ok (.iinc 1 1, 3) := by decide +kernel
theorem dX0_read_44 : decode cX0_read 44 = .ok (.goto (-32), 3) := by decide +kernel
theorem dX0_read_47 : decode cX0_read 47 = .ok (.aload_n 0, 1) := by decide +kernel
theorem dX0_read_48 : decode cX0_read 48 = .ok (.getfield 29, 3) := by decide +kernel
theorem dX0_read_51 : decode cX0_read 51 = .ok (.iconst 3, 1) := by decide +kernel
theorem dX0_read_52 : decode cX0_read 52 = .ok (.if_icmp .eq 8, 3) := by decide +kernel
theorem dX0_read_55 : decode cX0_read 55 = .ok (.aload_n 0, 1) := by decide +kernel
theorem dX0_read_56 : decode cX0_read 56 = .ok (.getfield 22, 3) := by decide +kernel
theorem dX0_read_59 : decode cX0_read 59 = .ok (.ireturn, 1) := by decide +kernel
theorem dX0_read_60 : decode cX0_read 60 = .ok (.aload_n 0, 1) := by decide +kernel
theorem dX0_read_61 : decode cX0_read 61 = .ok (.invokevirtual 36, 3) := by decide +kernel
theorem dX0_read_64 : decode cX0_read 64 = .ok (.pop, 1) := by decide +kernel
theorem dX0_read_65 : decode cX0_read 65 = .ok (.iconst (-1), 1) := by decide +kernel
theorem dX0_read_66 : decode cX0_read 66 = .ok (.ireturn, 1) := by decide +kernel
theorem ck_X0_32 : CkV RX0 32 RX0 yX0_takes cX0_takes 2 (some .boolean) 1 := ⟨wm_X0_32, wim_yX0_takes, wse_yX0_takes, wi_X0, wc_yX0_takes, by decide +kernel⟩
set_option maxHeartbeats 4000000 in
set_option maxRecDepth 100000 in
theorem kX0_read (l : Launch) (E : Ev) (a : Nat → Nat) (t : N2) : KQ l yX0_read cX0_read 2 (some .int) 2 44 E [.ref (a 0)] (wTx E a t) (QI E (wTx E a t) (fX0_read t).1 (wTx E a ((fX0_read t).2))) := by
  refine KQ.mk RX0 rfl (by decide +kernel) (Nat.le_of_ble_eq_true rfl) ?_
  intro p e s m below meth c ls X hr w hl
  have hx := X.1
  have hb := X.2.1
  have hl : lv_has ls 2 [(0, .ref (a 0))] := hl
  refine lv_aload_n hx hb dX0_read_0 rfl (lv_at hl 0 rfl) ?_
  refine lv_iconst (v := 0) hx hb dX0_read_1 (by decide) ?_
  refine r_put X w (wTx E a (u2 t 3 1 0)) CL0 4 (by decide) wf_X0_26 0 rfl rfl rfl rfl (Nat.le_of_ble_eq_true rfl) (ax_30 (E := E)) dX0_read_2 (fun H locs w => ?_)
  refine lv_aload_n hx hb dX0_read_5 rfl (lv_at hl 0 rfl) ?_
  refine lv_iconst (v := 0) hx hb dX0_read_6 (by decide) ?_
  refine r_put X w (wTx E a (u2 (u2 t 3 1 0) 3 2 0)) CL0 5 (by decide) wf_X0_29 0 rfl rfl rfl rfl (Nat.le_of_ble_eq_true rfl) (ax_27 (E := E)) dX0_read_7 (fun H locs w => ?_)
  refine lv_iconst (v := 0) hx hb dX0_read_10 (by decide) ?_
  refine lv_istore_n (lv' := [(1, .int 0), (0, .ref (a 0))]) hx hb dX0_read_11 rfl hl (by decide) rfl (fun ls hl => ?_)
  have loop : ∀ (n k : Nat), k + n = 60 → ∀ (t1 : N2), rdN n k t1 = fX0_read t → ∀ (H : Heap) (locs : List Loc), Wd E (hB (wTx E a t)) s (wTx E a t1) H locs → ∀ (ls : Array Slot), lv_has ls 2 [(1, .int (nI k)), (0, .ref (a 0))] → W p l e { frames := 2, cells := 0, slots := 0, locals := 44 } s m (([.ref (a 0)] : List Value)).toArray below meth c H locs 0 0 (MQ below (QI E (wTx E a t) (fX0_read t).1 (wTx E a ((fX0_read t).2))) (([.ref (a 0)] : List Value)).toArray s 0 0 (hB (wTx E a t))) (F0 m 12 ls []) := by
    intro n
    induction n with
    | zero =>
      intro k hk_k t1 hR H locs w ls hl
      obtain rfl : k = 60 := by omega
      refine lv_iload_n hx hb dX0_read_12 rfl (lv_at hl 0 rfl) ?_
      refine lv_aload_n hx hb dX0_read_13 rfl (lv_at hl 1 rfl) ?_
      refine r_get X w CL0 1 (by decide) wf_X0_22 0 rfl rfl dX0_read_14 ?_
      refine lv_icmp_ge (tgt := 47) hx hb dX0_read_17 (by decide) (fun c17_1 => ?_) (fun c17_1 => ?_)
      · refine lv_aload_n hx hb dX0_read_47 rfl (lv_at hl 1 rfl) ?_
        refine r_get X w CL0 5 (by decide) wf_X0_29 0 rfl rfl dX0_read_48 ?_
        refine lv_iconst (v := 3) hx hb dX0_read_51 (by decide) ?_
        refine lv_icmp_eq (tgt := 60) hx hb dX0_read_52 (by decide) (fun c52_2 => ?_) (fun c52_2 => ?_)
        · refine lv_aload_n hx hb dX0_read_60 rfl (lv_at hl 1 rfl) ?_
          refine r_ci w (r_runV (As := []) (rest := []) X w (kX0_endBall l E a t1 ) ck_X0_36 ⟨Nat.le_of_ble_eq_true rfl, Nat.le_of_ble_eq_true rfl⟩ [0, 1, 2, 3] (hc_31 (E := E)) (by decide +kernel) (k0 := 0) CL0 rfl hl.1 (Nat.le_of_ble_eq_true rfl) rfl dX0_read_61 ⟨Nat.le_of_ble_eq_true rfl, Nat.le_of_ble_eq_true rfl⟩) (wTx E a ((fX0_endBall t1).2)) [0, 1, 2, 3] (hc_31 (E := E)) (by decide +kernel) (ha_31 (E := E)) (hw_31 (E := E)) (fun H locs w => ?_)
          refine lv_pop hx hb dX0_read_64 rfl ?_
          refine lv_iconst (v := (-1)) hx hb dX0_read_65 (by decide) ?_
          have hq : fX0_read t = ((-1), (fX0_endBall t1).2) := by rw [← hR]; simp only [rdN, rdF, if_pos c17_1, if_pos c52_2]
          obtain ⟨h0_, h1_⟩ := tup2 hq
          rw [h0_, h1_]
          exact r_iret X w hr rfl dX0_read_66
        · refine lv_aload_n hx hb dX0_read_55 rfl (lv_at hl 1 rfl) ?_
          refine r_get X w CL0 1 (by decide) wf_X0_22 0 rfl rfl dX0_read_56 ?_
          have hq : fX0_read t = (t1 3 0, t1) := by rw [← hR]; simp only [rdN, rdF, if_pos c17_1, if_neg c52_2]
          obtain ⟨h0_, h1_⟩ := tup2 hq
          rw [h0_, h1_]
          exact r_iret X w hr rfl dX0_read_59
      · refine lv_iload_n hx hb dX0_read_20 rfl (lv_at hl 0 rfl) ?_
        refine lv_bipush (v := 60) hx hb dX0_read_21 (by decide) ?_
        refine lv_icmp_ge (tgt := 47) hx hb dX0_read_23 (by decide) (fun _ => ?_) (fun h => absurd (by decide : (60 : Int32) ≤ nI 60) h)
        refine lv_aload_n hx hb dX0_read_47 rfl (lv_at hl 1 rfl) ?_
        refine r_get X w CL0 5 (by decide) wf_X0_29 0 rfl rfl dX0_read_48 ?_
        refine lv_iconst (v := 3) hx hb dX0_read_51 (by decide) ?_
        refine lv_icmp_eq (tgt := 60) hx hb dX0_read_52 (by decide) (fun c52_4 => ?_) (fun c52_4 => ?_)
        · refine lv_aload_n hx hb dX0_read_60 rfl (lv_at hl 1 rfl) ?_
          refine r_ci w (r_runV (As := []) (rest := []) X w (kX0_endBall l E a t1 ) ck_X0_36 ⟨Nat.le_of_ble_eq_true rfl, Nat.le_of_ble_eq_true rfl⟩ [0, 1, 2, 3] (hc_31 (E := E)) (by decide +kernel) (k0 := 0) CL0 rfl hl.1 (Nat.le_of_ble_eq_true rfl) rfl dX0_read_61 ⟨Nat.le_of_ble_eq_true rfl, Nat.le_of_ble_eq_true rfl⟩) (wTx E a ((fX0_endBall t1).2)) [0, 1, 2, 3] (hc_31 (E := E)) (by decide +kernel) (ha_31 (E := E)) (hw_31 (E := E)) (fun H locs w => ?_)
          refine lv_pop hx hb dX0_read_64 rfl ?_
          refine lv_iconst (v := (-1)) hx hb dX0_read_65 (by decide) ?_
          have hq : fX0_read t = ((-1), (fX0_endBall t1).2) := by rw [← hR]; simp only [rdN, rdF, if_neg c17_1, if_pos c52_4]
          obtain ⟨h0_, h1_⟩ := tup2 hq
          rw [h0_, h1_]
          exact r_iret X w hr rfl dX0_read_66
        · refine lv_aload_n hx hb dX0_read_55 rfl (lv_at hl 1 rfl) ?_
          refine r_get X w CL0 1 (by decide) wf_X0_22 0 rfl rfl dX0_read_56 ?_
          have hq : fX0_read t = (t1 3 0, t1) := by rw [← hR]; simp only [rdN, rdF, if_neg c17_1, if_neg c52_4]
          obtain ⟨h0_, h1_⟩ := tup2 hq
          rw [h0_, h1_]
          exact r_iret X w hr rfl dX0_read_59
    | succ n ih =>
      intro k hk_k t1 hR H locs w ls hl
      have hkN : k < 60 := by omega
      refine lv_iload_n hx hb dX0_read_12 rfl (lv_at hl 0 rfl) ?_
      refine lv_aload_n hx hb dX0_read_13 rfl (lv_at hl 1 rfl) ?_
      refine r_get X w CL0 1 (by decide) wf_X0_22 0 rfl rfl dX0_read_14 ?_
      refine lv_icmp_ge (tgt := 47) hx hb dX0_read_17 (by decide) (fun c17_5 => ?_) (fun c17_5 => ?_)
      · refine lv_aload_n hx hb dX0_read_47 rfl (lv_at hl 1 rfl) ?_
        refine r_get X w CL0 5 (by decide) wf_X0_29 0 rfl rfl dX0_read_48 ?_
        refine lv_iconst (v := 3) hx hb dX0_read_51 (by decide) ?_
        refine lv_icmp_eq (tgt := 60) hx hb dX0_read_52 (by decide) (fun c52_6 => ?_) (fun c52_6 => ?_)
        · refine lv_aload_n hx hb dX0_read_60 rfl (lv_at hl 1 rfl) ?_
          refine r_ci w (r_runV (As := []) (rest := []) X w (kX0_endBall l E a t1 ) ck_X0_36 ⟨Nat.le_of_ble_eq_true rfl, Nat.le_of_ble_eq_true rfl⟩ [0, 1, 2, 3] (hc_31 (E := E)) (by decide +kernel) (k0 := 0) CL0 rfl hl.1 (Nat.le_of_ble_eq_true rfl) rfl dX0_read_61 ⟨Nat.le_of_ble_eq_true rfl, Nat.le_of_ble_eq_true rfl⟩) (wTx E a ((fX0_endBall t1).2)) [0, 1, 2, 3] (hc_31 (E := E)) (by decide +kernel) (ha_31 (E := E)) (hw_31 (E := E)) (fun H locs w => ?_)
          refine lv_pop hx hb dX0_read_64 rfl ?_
          refine lv_iconst (v := (-1)) hx hb dX0_read_65 (by decide) ?_
          have hq : fX0_read t = ((-1), (fX0_endBall t1).2) := by rw [← hR]; simp only [rdN, rdF, if_pos c17_5, if_pos c52_6]
          obtain ⟨h0_, h1_⟩ := tup2 hq
          rw [h0_, h1_]
          exact r_iret X w hr rfl dX0_read_66
        · refine lv_aload_n hx hb dX0_read_55 rfl (lv_at hl 1 rfl) ?_
          refine r_get X w CL0 1 (by decide) wf_X0_22 0 rfl rfl dX0_read_56 ?_
          have hq : fX0_read t = (t1 3 0, t1) := by rw [← hR]; simp only [rdN, rdF, if_pos c17_5, if_neg c52_6]
          obtain ⟨h0_, h1_⟩ := tup2 hq
          rw [h0_, h1_]
          exact r_iret X w hr rfl dX0_read_59
      · refine lv_iload_n hx hb dX0_read_20 rfl (lv_at hl 0 rfl) ?_
        refine lv_bipush (v := 60) hx hb dX0_read_21 (by decide) ?_
        refine lv_icmp_ge (tgt := 47) hx hb dX0_read_23 (by decide) (fun h => absurd h (nI_ge (b := 60) hkN (by decide))) (fun _ => ?_)
        refine lv_aload_n hx hb dX0_read_26 rfl (lv_at hl 1 rfl) ?_
        refine lv_aload_n hx hb dX0_read_27 rfl (lv_at hl 1 rfl) ?_
        refine r_get X w CL0 0 (by decide) wf_X0_11 0 rfl rfl dX0_read_28 ?_
        refine lv_iload_n hx hb dX0_read_31 rfl (lv_at hl 0 rfl) ?_
        refine r_cald X w 1 rfl (vp_in_nI hkN (by decide)) dX0_read_32 ?_
        refine r_ci w (r_runV (As := [.int (t1 0 (nI k).toNatClampNeg)]) (rest := []) X w (kX0_takes l E a t1 (t1 0 (nI k).toNatClampNeg) ) ck_X0_32 ⟨Nat.le_of_ble_eq_true rfl, Nat.le_of_ble_eq_true rfl⟩ [0, 1, 2, 3] (hc_31 (E := E)) (by decide +kernel) (k0 := 0) CL0 rfl hl.1 (Nat.le_of_ble_eq_true rfl) rfl dX0_read_33 ⟨Nat.le_of_ble_eq_true rfl, Nat.le_of_ble_eq_true rfl⟩) (wTx E a ((fX0_takes t1 (t1 0 (nI k).toNatClampNeg)).2)) [0, 1, 2, 3] (hc_31 (E := E)) (by decide +kernel) (ha_31 (E := E)) (hw_31 (E := E)) (fun H locs w => ?_)
        refine lv_if_ne (tgt := 41) hx hb dX0_read_36 (by decide) (fun c36_8 => ?_) (fun c36_8 => ?_)
        · refine lv_iinc (v := (nI k) + 1) (lv' := [(1, .int ((nI k) + 1)), (0, .ref (a 0))]) hx hb dX0_read_41 hl (k := 0) rfl (by first | rfl | decide) (by decide) rfl (fun ls hl => ?_)
          refine lv_goto (tgt := 12) hx hb dX0_read_44 (by decide) ?_
          have e0 : nI k + 1 = nI (k + 1) := nI_1 k
          rw [e0] at hl
          exact ih (k + 1) (by omega) _ (by rw [← hR]; simp only [rdN, if_neg c17_5, if_neg c36_8]) _ _ w ls (lv_sub hl [0, 1] rfl)
        · refine lv_iload_n hx hb dX0_read_39 rfl (lv_at hl 0 rfl) ?_
          have hq : fX0_read t = (nI k, (fX0_takes t1 (t1 0 (nI k).toNatClampNeg)).2) := by rw [← hR]; simp only [rdN, rdF, if_neg c17_5, if_pos c36_8]
          obtain ⟨h0_, h1_⟩ := tup2 hq
          rw [h0_, h1_]
          exact r_iret X w hr rfl dX0_read_40
  exact loop 60 0 (by omega) _ rfl _ _ w ls (lv_sub hl [0, 1] rfl)
def fX2_dropOldest (n : Int32) (o : Nat) (η : Nat → N2) : Int32 × Nat := (3, (o + 1))
theorem dX2_dropOldest_0 : decode cX2_dropOldest 0 = .ok (.aload_n 0, 1) := by decide +kernel
theorem dX2_dropOldest_1 : decode cX2_dropOldest 1 = .ok (.getfield 11, 3) := by decide +kernel
theorem dX2_dropOldest_4 : decode cX2_dropOldest 4 = .ok (.iconst 0, 1) := by decide +kernel
theorem dX2_dropOldest_5 : decode cX2_dropOldest 5 = .ok (.aaload, 1) := by decide +kernel
theorem dX2_dropOldest_6 : decode cX2_dropOldest 6 = .ok (.astore_n 1, 1) := by decide +kernel
theorem dX2_dropOldest_7 : decode cX2_dropOldest 7 = .ok (.iconst 1, 1) := by decide +kernel
theorem dX2_dropOldest_8 : decode cX2_dropOldest 8 = .ok (.istore_n 2, 1) := by decide +kernel
theorem dX2_dropOldest_9 : decode cX2_dropOldest 9 = .ok (.iload_n 2, 1) := by decide +kernel
theorem dX2_dropOldest_10 : decode cX2_dropOldest 10 = .ok (.iconst 4, 1) := by decide +kernel
theorem dX2_dropOldest_11 : decode cX2_dropOldest 11 = .ok (.if_icmp .ge 23, 3) := by decide +kernel
theorem dX2_dropOldest_14 : decode cX2_dropOldest 14 = .ok (.aload_n 0, 1) := by decide +kernel
theorem dX2_dropOldest_15 : decode cX2_dropOldest 15 = .ok (.getfield 11, 3) := by decide +kernel
theorem dX2_dropOldest_18 : decode cX2_dropOldest 18 = .ok (.iload_n 2, 1) := by decide +kernel
theorem dX2_dropOldest_19 : decode cX2_dropOldest 19 = .ok (.iconst 1, 1) := by decide +kernel
theorem dX2_dropOldest_20 : decode cX2_dropOldest 20 = .ok (.isub, 1) := by decide +kernel
theorem dX2_dropOldest_21 : decode cX2_dropOldest 21 = .ok (.aload_n 0, 1) := by decide +kernel
theorem dX2_dropOldest_22 : decode cX2_dropOldest 22 = .ok (.getfield 11, 3) := by decide +kernel
theorem dX2_dropOldest_25 : decode cX2_dropOldest 25 = .ok (.iload_n 2, 1) := by decide +kernel
theorem dX2_dropOldest_26 : decode cX2_dropOldest 26 = .ok (.aaload, 1) := by decide +kernel
theorem dX2_dropOldest_27 : decode cX2_dropOldest 27 = .ok (.aastore, 1) := by decide +kernel
theorem dX2_dropOldest_28 : decode cX2_dropOldest 28 = .ok (.iinc 2 1, 3) := by decide +kernel
theorem dX2_dropOldest_31 : decode cX2_dropOldest 31 = .ok (.goto (-22), 3) := by decide +kernel
theorem dX2_dropOldest_34 : decode cX2_dropOldest 34 = .ok (.aload_n 0, 1) := by decide +kernel
theorem dX2_dropOldest_35 : decode cX2_dropOldest 35 = .ok (.getfield 11, 3) := by decide +kernel
theorem dX2_dropOldest_38 : decode cX2_dropOldest 38 = .ok (.iconst 3, 1) := by decide +kernel
theorem dX2_dropOldest_39 : decode cX2_dropOldest 39 = .ok (.aload_n 1, 1) := by decide +kernel
theorem dX2_dropOldest_40 : decode cX2_dropOldest 40 = .ok (.aastore, 1) := by decide +kernel
theorem dX2_dropOldest_41 : decode cX2_dropOldest 41 = .ok (.aload_n 0, 1) := by decide +kernel
theorem dX2_dropOldest_42 : decode cX2_dropOldest 42 = .ok (.iconst 3, 1) := by decide +kernel
theorem dX2_dropOldest_43 : decode cX2_dropOldest 43 = .ok (.putfield 16, 3) := by decide +kernel
theorem dX2_dropOldest_46 : decode cX2_dropOldest 46 = .ok (.return_, 1) := by decide +kernel
theorem ax_32 {E : Ev} {a0 : Nat → Nat} {h0 : Nat → Nat → Nat} {n0 : Int32} {η0 : Nat → N2} {f0 : Nat → Option Nat} {x : Int32} : (wHg E a0 h0 n0 f0 η0).set 0 (a0 0, .inr (1, ([.ref (a0 1), .int n0] : List Value).set 1 (.int x))) = wHg E a0 h0 x f0 η0 := rfl
set_option maxHeartbeats 4000000 in
set_option maxRecDepth 100000 in
theorem kX2_dropOldest (l : Launch) (E : Ev) (a : Nat → Nat) (hh : Nat → Nat → Nat) (n : Int32) (o : Nat) (η : Nat → N2) : KQ l yX2_dropOldest cX2_dropOldest 3 none 0 0 E [.ref (a 0)] (wHs E a hh n o η) (QV E (wHs E a hh n o η) (wHs E a hh ((fX2_dropOldest n o η).1) ((fX2_dropOldest n o η).2) η)) := by
  refine KQ.mk RX2 rfl (by decide +kernel) (Nat.le_of_ble_eq_true rfl) ?_
  intro p e s m below meth c ls X hr w hl
  have hx := X.1
  have hb := X.2.1
  have hl : lv_has ls 3 [(0, .ref (a 0))] := hl
  refine lv_aload_n hx hb dX2_dropOldest_0 rfl (lv_at hl 0 rfl) ?_
  refine r_get X w CL2 0 (by decide) wf_X2_11 0 rfl rfl dX2_dropOldest_1 ?_
  refine lv_iconst (v := 0) hx hb dX2_dropOldest_4 (by decide) ?_
  refine r_aldq X w 1 rfl (vin_c rfl) (v := (hh ((0 + o) % 4) 0)) rfl dX2_dropOldest_5 ?_
  refine lv_astore_n (lv' := [(1, .ref (hh ((0 + o) % 4) 0)), (0, .ref (a 0))]) hx hb dX2_dropOldest_6 rfl hl (by decide) rfl (fun ls hl => ?_)
  refine lv_iconst (v := 1) hx hb dX2_dropOldest_7 (by decide) ?_
  refine lv_istore_n (lv' := [(2, .int 1), (1, .ref (hh ((0 + o) % 4) 0)), (0, .ref (a 0))]) hx hb dX2_dropOldest_8 rfl hl (by decide) rfl (fun ls hl => ?_)
  refine lv_iload_n hx hb dX2_dropOldest_9 rfl (lv_at hl 0 rfl) ?_
  refine lv_iconst (v := 4) hx hb dX2_dropOldest_10 (by decide) ?_
  refine lv_icmp_ge (tgt := 34) hx hb dX2_dropOldest_11 (by decide) (fun h => absurd h (by decide)) (fun _ => ?_)
  refine lv_aload_n hx hb dX2_dropOldest_14 rfl (lv_at hl 2 rfl) ?_
  refine r_get X w CL2 0 (by decide) wf_X2_11 0 rfl rfl dX2_dropOldest_15 ?_
  refine lv_iload_n hx hb dX2_dropOldest_18 rfl (lv_at hl 0 rfl) ?_
  refine lv_iconst (v := 1) hx hb dX2_dropOldest_19 (by decide) ?_
  refine lv_isub hx hb dX2_dropOldest_20 ?_
  rw [show ((1 : Int32) - 1) = 0 from by decide]
  refine lv_aload_n hx hb dX2_dropOldest_21 rfl (lv_at hl 2 rfl) ?_
  refine r_get X w CL2 0 (by decide) wf_X2_11 0 rfl rfl dX2_dropOldest_22 ?_
  refine lv_iload_n hx hb dX2_dropOldest_25 rfl (lv_at hl 0 rfl) ?_
  refine r_aldq X w 1 rfl (vin_c rfl) (v := (hh ((1 + o) % 4) 0)) rfl dX2_dropOldest_26 ?_
  refine r_astq X w (wHg E a hh n (va_up (fun i => some (hh ((i + o) % 4) 0)) (0 : Int32).toNatClampNeg (some (hh ((1 + o) % 4) 0))) η) 1 (2 + 9 * ((1 + o) % 4)) rfl (hsO (Nat.mod_lt _ (by decide))) (vin_c rfl) rfl dX2_dropOldest_27 (fun H locs w => ?_)
  refine lv_iinc (v := 2) (lv' := [(2, .int 2), (1, .ref (hh ((0 + o) % 4) 0)), (0, .ref (a 0))]) hx hb dX2_dropOldest_28 hl (k := 0) rfl (by first | rfl | decide) (by decide) rfl (fun ls hl => ?_)
  refine lv_goto (tgt := 9) hx hb dX2_dropOldest_31 (by decide) ?_
  refine lv_iload_n hx hb dX2_dropOldest_9 rfl (lv_at hl 0 rfl) ?_
  refine lv_iconst (v := 4) hx hb dX2_dropOldest_10 (by decide) ?_
  refine lv_icmp_ge (tgt := 34) hx hb dX2_dropOldest_11 (by decide) (fun h => absurd h (by decide)) (fun _ => ?_)
  refine lv_aload_n hx hb dX2_dropOldest_14 rfl (lv_at hl 2 rfl) ?_
  refine r_get X w CL2 0 (by decide) wf_X2_11 0 rfl rfl dX2_dropOldest_15 ?_
  refine lv_iload_n hx hb dX2_dropOldest_18 rfl (lv_at hl 0 rfl) ?_
  refine lv_iconst (v := 1) hx hb dX2_dropOldest_19 (by decide) ?_
  refine lv_isub hx hb dX2_dropOldest_20 ?_
  rw [show ((2 : Int32) - 1) = 1 from by decide]
  refine lv_aload_n hx hb dX2_dropOldest_21 rfl (lv_at hl 2 rfl) ?_
  refine r_get X w CL2 0 (by decide) wf_X2_11 0 rfl rfl dX2_dropOldest_22 ?_
  refine lv_iload_n hx hb dX2_dropOldest_25 rfl (lv_at hl 0 rfl) ?_
  refine r_aldq X w 1 rfl (vin_c rfl) (v := (hh ((2 + o) % 4) 0)) rfl dX2_dropOldest_26 ?_
  refine r_astq X w (wHg E a hh n (va_up (va_up (fun i => some (hh ((i + o) % 4) 0)) (0 : Int32).toNatClampNeg (some (hh ((1 + o) % 4) 0))) (1 : Int32).toNatClampNeg (some (hh ((2 + o) % 4) 0))) η) 1 (2 + 9 * ((2 + o) % 4)) rfl (hsO (Nat.mod_lt _ (by decide))) (vin_c rfl) rfl dX2_dropOldest_27 (fun H locs w => ?_)
  refine lv_iinc (v := 3) (lv' := [(2, .int 3), (1, .ref (hh ((0 + o) % 4) 0)), (0, .ref (a 0))]) hx hb dX2_dropOldest_28 hl (k := 0) rfl (by first | rfl | decide) (by decide) rfl (fun ls hl => ?_)
  refine lv_goto (tgt := 9) hx hb dX2_dropOldest_31 (by decide) ?_
  refine lv_iload_n hx hb dX2_dropOldest_9 rfl (lv_at hl 0 rfl) ?_
  refine lv_iconst (v := 4) hx hb dX2_dropOldest_10 (by decide) ?_
  refine lv_icmp_ge (tgt := 34) hx hb dX2_dropOldest_11 (by decide) (fun h => absurd h (by decide)) (fun _ => ?_)
  refine lv_aload_n hx hb dX2_dropOldest_14 rfl (lv_at hl 2 rfl) ?_
  refine r_get X w CL2 0 (by decide) wf_X2_11 0 rfl rfl dX2_dropOldest_15 ?_
  refine lv_iload_n hx hb dX2_dropOldest_18 rfl (lv_at hl 0 rfl) ?_
  refine lv_iconst (v := 1) hx hb dX2_dropOldest_19 (by decide) ?_
  refine lv_isub hx hb dX2_dropOldest_20 ?_
  rw [show ((3 : Int32) - 1) = 2 from by decide]
  refine lv_aload_n hx hb dX2_dropOldest_21 rfl (lv_at hl 2 rfl) ?_
  refine r_get X w CL2 0 (by decide) wf_X2_11 0 rfl rfl dX2_dropOldest_22 ?_
  refine lv_iload_n hx hb dX2_dropOldest_25 rfl (lv_at hl 0 rfl) ?_
  refine r_aldq X w 1 rfl (vin_c rfl) (v := (hh ((3 + o) % 4) 0)) rfl dX2_dropOldest_26 ?_
  refine r_astq X w (wHg E a hh n (va_up (va_up (va_up (fun i => some (hh ((i + o) % 4) 0)) (0 : Int32).toNatClampNeg (some (hh ((1 + o) % 4) 0))) (1 : Int32).toNatClampNeg (some (hh ((2 + o) % 4) 0))) (2 : Int32).toNatClampNeg (some (hh ((3 + o) % 4) 0))) η) 1 (2 + 9 * ((3 + o) % 4)) rfl (hsO (Nat.mod_lt _ (by decide))) (vin_c rfl) rfl dX2_dropOldest_27 (fun H locs w => ?_)
  refine lv_iinc (v := 4) (lv' := [(2, .int 4), (1, .ref (hh ((0 + o) % 4) 0)), (0, .ref (a 0))]) hx hb dX2_dropOldest_28 hl (k := 0) rfl (by first | rfl | decide) (by decide) rfl (fun ls hl => ?_)
  refine lv_goto (tgt := 9) hx hb dX2_dropOldest_31 (by decide) ?_
  refine lv_iload_n hx hb dX2_dropOldest_9 rfl (lv_at hl 0 rfl) ?_
  refine lv_iconst (v := 4) hx hb dX2_dropOldest_10 (by decide) ?_
  refine lv_icmp_ge (tgt := 34) hx hb dX2_dropOldest_11 (by decide) (fun _ => ?_) (fun h => absurd h (by decide))
  refine lv_aload_n hx hb dX2_dropOldest_34 rfl (lv_at hl 2 rfl) ?_
  refine r_get X w CL2 0 (by decide) wf_X2_11 0 rfl rfl dX2_dropOldest_35 ?_
  refine lv_iconst (v := 3) hx hb dX2_dropOldest_38 (by decide) ?_
  refine lv_aload_n hx hb dX2_dropOldest_39 rfl (lv_at hl 1 rfl) ?_
  refine r_astq X w (wHg E a hh n (va_up (va_up (va_up (va_up (fun i => some (hh ((i + o) % 4) 0)) (0 : Int32).toNatClampNeg (some (hh ((1 + o) % 4) 0))) (1 : Int32).toNatClampNeg (some (hh ((2 + o) % 4) 0))) (2 : Int32).toNatClampNeg (some (hh ((3 + o) % 4) 0))) (3 : Int32).toNatClampNeg (some (hh ((0 + o) % 4) 0))) η) 1 (2 + 9 * ((0 + o) % 4)) rfl (hsO (Nat.mod_lt _ (by decide))) (vin_c rfl) rfl dX2_dropOldest_40 (fun H locs w => ?_)
  refine lv_aload_n hx hb dX2_dropOldest_41 rfl (lv_at hl 2 rfl) ?_
  refine lv_iconst (v := 3) hx hb dX2_dropOldest_42 (by decide) ?_
  refine r_put X w (wHg E a hh 3 (va_up (va_up (va_up (va_up (fun i => some (hh ((i + o) % 4) 0)) (0 : Int32).toNatClampNeg (some (hh ((1 + o) % 4) 0))) (1 : Int32).toNatClampNeg (some (hh ((2 + o) % 4) 0))) (2 : Int32).toNatClampNeg (some (hh ((3 + o) % 4) 0))) (3 : Int32).toNatClampNeg (some (hh ((0 + o) % 4) 0))) η) CL2 1 (by decide) wf_X2_16 0 rfl rfl rfl rfl (Nat.le_of_ble_eq_true rfl) (ax_32 (E := E)) dX2_dropOldest_43 (fun H locs w => ?_)
  have w := w.arrq 1 (fun i => some (hh ((i + (o + 1)) % 4) 0)) rfl (by
    intro j hj
    match j, hj with
    | 0, _ => exact congrArg (fun q => some (hh q 0)) (by omega : (1 + o) % 4 = (0 + (o + 1)) % 4)
    | 1, _ => exact congrArg (fun q => some (hh q 0)) (by omega : (2 + o) % 4 = (1 + (o + 1)) % 4)
    | 2, _ => exact congrArg (fun q => some (hh q 0)) (by omega : (3 + o) % 4 = (2 + (o + 1)) % 4)
    | 3, _ => exact congrArg (fun q => some (hh q 0)) (by omega : (0 + o) % 4 = (3 + (o + 1)) % 4))
  have hq : fX2_dropOldest n o η = (3, (o + 1)) := rfl
  obtain ⟨h0_, h1_⟩ := tup2 hq
  rw [h0_, h1_]
  exact r_vret X w hr dX2_dropOldest_46
def fX2_record (n : Int32) (o : Nat) (η : Nat → N2) (σ : N2) : Int32 × Nat × (Nat → N2) := if n < 4 then (if n < 0 then ((n, o, η)) else (if 4 ≤ n then ((n, o, η)) else ((n + 1, o, va_up η ((n.toNatClampNeg + o) % 4) σ)))) else (if ((fX2_dropOldest n o η).1) < 0 then (((fX2_dropOldest n o η).1, (fX2_dropOldest n o η).2, η)) else (if 4 ≤ ((fX2_dropOldest n o η).1) then (((fX2_dropOldest n o η).1, (fX2_dropOldest n o η).2, η)) else ((((fX2_dropOldest n o η).1) + 1, (fX2_dropOldest n o η).2, va_up η ((((fX2_dropOldest n o η).1).toNatClampNeg + ((fX2_dropOldest n o η).2)) % 4) σ))))
theorem dX2_record_0 : decode cX2_record 0 = .ok (.aload_n 0, 1) := by decide +kernel
theorem dX2_record_1 : decode cX2_record 1 = .ok (.getfield 16, 3) := by decide +kernel
theorem dX2_record_4 : decode cX2_record 4 = .ok (.iconst 4, 1) := by decide +kernel
theorem dX2_record_5 : decode cX2_record 5 = .ok (.if_icmp .lt 7, 3) := by decide +kernel
theorem dX2_record_8 : decode cX2_record 8 = .ok (.aload_n 0, 1) := by decide +kernel
theorem dX2_record_9 : decode cX2_record 9 = .ok (.invokevirtual 20, 3) := by decide +kernel
theorem dX2_record_12 : decode cX2_record 12 = .ok (.aload_n 0, 1) := by decide +kernel
theorem dX2_record_13 : decode cX2_record 13 = .ok (.getfield 16, 3) := by decide +kernel
theorem dX2_record_16 : decode cX2_record 16 = .ok (.ifCond .lt 34, 3) := by decide +kernel
theorem dX2_record_19 : decode cX2_record 19 = .ok (.aload_n 0, 1) := by decide +kernel
theorem dX2_record_20 : decode cX2_record 20 = .ok (.getfield 16, 3) := by decide +kernel
theorem dX2_record_23 : decode cX2_record 23 = .ok (.iconst 4, 1) := by decide +kernel
theorem dX2_record_24 : decode cX2_record 24 = .ok (.if_icmp .ge 26, 3) := by decide +kernel
theorem dX2_record_27 : decode cX2_record 27 = .ok (.aload_n 0, 1) := by decide +kernel
theorem dX2_record_28 : decode cX2_record 28 = .ok (.getfield 11, 3) := by decide +kernel
theorem dX2_record_31 : decode cX2_record 31 = .ok (.aload_n 0, 1) := by decide +kernel
theorem dX2_record_32 : decode cX2_record 32 = .ok (.getfield 16, 3) := by decide +kernel
theorem dX2_record_35 : decode cX2_record 35 = .ok (.aaload, 1) := by decide +kernel
theorem dX2_record_36 : decode cX2_record 36 = .ok (.aload_n 1, 1) := by decide +kernel
theorem dX2_record_37 : decode cX2_record 37 = .ok (.invokevirtual 23, 3) := by decide +kernel
theorem dX2_record_40 : decode cX2_record 40 = .ok (.aload_n 0, 1) := by decide +kernel
theorem dX2_record_41 : decode cX2_record 41 = .ok (.dup, 1) := by decide +kernel
theorem dX2_record_42 : decode cX2_record 42 = .ok (.getfield 16, 3) := by decide +kernel
theorem dX2_record_45 : decode cX2_record 45 = .ok (.iconst 1, 1) := by decide +kernel
theorem dX2_record_46 : decode cX2_record 46 = .ok (.iadd, 1) := by decide +kernel
theorem dX2_record_47 : decode cX2_record 47 = .ok (.putfield 16, 3) := by decide +kernel
theorem dX2_record_50 : decode cX2_record 50 = .ok (.return_, 1) := by decide +kernel
theorem ck_X2_20 : CkV RX2 20 RX2 yX2_dropOldest cX2_dropOldest 3 none 0 := ⟨wm_X2_20, wim_yX2_dropOldest, wse_yX2_dropOldest, wi_X2, wc_yX2_dropOldest, by decide +kernel⟩
theorem ck_X2_23 : CkV RX2 23 RX4 yX4_copyFrom cX4_copyFrom 2 none 1 := ⟨wm_X2_23, wim_yX4_copyFrom, wse_yX4_copyFrom, wi_X4, wc_yX4_copyFrom, by decide +kernel⟩
theorem ax_33 {E : Ev} {a0 : Nat → Nat} {h0 : Nat → Nat → Nat} {n0 : Int32} {η0 : Nat → N2} {o0 : Nat} {a1 : Nat → Nat} {σ1 : N2} {x : Int32} : (wHs E a0 h0 n0 o0 η0 ++ wSt E a1 σ1).set 0 (a0 0, .inr (1, ([.ref (a0 1), .int n0] : List Value).set 1 (.int x))) = wHs E a0 h0 x o0 η0 ++ wSt E a1 σ1 := rfl
theorem hc_34 {E : Ev} {a0 : Nat → Nat} {h0 : Nat → Nat → Nat} {n0 : Int32} {η0 : Nat → N2} {o0 : Nat} {a1 : Nat → Nat} {σ1 : N2} : ([0, 1, 2, 3, 4, 5, 6, 7, 8, 9, 10, 11, 12, 13, 14, 15, 16, 17, 18, 19, 20, 21, 22, 23, 24, 25, 26, 27, 28, 29, 30, 31, 32, 33, 34, 35, 36, 37] : List Nat).map (fun i => (wHs E a0 h0 n0 o0 η0 ++ wSt E a1 σ1)[i]?) = (wHs E a0 h0 n0 o0 η0).map some := by rw [show wHs E a0 h0 n0 o0 η0 ++ (wSt E a1 σ1) = ([] : va_W) ++ (wHs E a0 h0 n0 o0 η0 ++ (wSt E a1 σ1)) by simp only [List.append_assoc, List.nil_append, List.append_nil]]; exact get1 (s := 0) (n := 38) rfl rfl
theorem ha_34 {E : Ev} {a0 : Nat → Nat} {h0 : Nat → Nat → Nat} {n0 : Int32} {η0 : Nat → N2} {o0 : Nat} {τ0_0 : Int32} {τ0_1 : Nat} {τ0_2 : Nat → N2} : (wHs E a0 h0 τ0_0 τ0_1 τ0_2).map Prod.fst = (wHs E a0 h0 n0 o0 η0).map Prod.fst := fst_Hs
theorem hw_34 {E : Ev} {a0 : Nat → Nat} {h0 : Nat → Nat → Nat} {n0 : Int32} {η0 : Nat → N2} {o0 : Nat} {a1 : Nat → Nat} {σ1 : N2} {τ0_0 : Int32} {τ0_1 : Nat} {τ0_2 : Nat → N2} : wput (wHs E a0 h0 n0 o0 η0 ++ wSt E a1 σ1) [0, 1, 2, 3, 4, 5, 6, 7, 8, 9, 10, 11, 12, 13, 14, 15, 16, 17, 18, 19, 20, 21, 22, 23, 24, 25, 26, 27, 28, 29, 30, 31, 32, 33, 34, 35, 36, 37] (wHs E a0 h0 τ0_0 τ0_1 τ0_2) = wHs E a0 h0 τ0_0 τ0_1 τ0_2 ++ wSt E a1 σ1 := by
  show wput (wHs E a0 h0 n0 o0 η0 ++ (wSt E a1 σ1)) (rg 0 38) (wHs E a0 h0 τ0_0 τ0_1 τ0_2) = _
  rw [show wHs E a0 h0 n0 o0 η0 ++ (wSt E a1 σ1) = ([] : va_W) ++ (wHs E a0 h0 n0 o0 η0 ++ (wSt E a1 σ1)) by simp only [List.append_assoc, List.nil_append, List.append_nil], put1 (s := 0) (n := 38) rfl rfl rfl]
  try simp only [List.append_assoc, List.nil_append, List.append_nil]
set_option maxHeartbeats 4000000 in
set_option maxRecDepth 100000 in
theorem kX2_record (l : Launch) (E : Ev) (a : Nat → Nat) (hh : Nat → Nat → Nat) (n : Int32) (o : Nat) (η : Nat → N2) (sa : Nat → Nat) (σ : N2) : KQ l yX2_record cX2_record 2 none 2 81 E [.ref (a 0), .ref (sa 0)] (wHs E a hh n o η ++ wSt E sa σ) (QV E (wHs E a hh n o η ++ wSt E sa σ) (wHs E a hh ((fX2_record n o η σ).1) ((fX2_record n o η σ).2.1) ((fX2_record n o η σ).2.2) ++ wSt E sa σ)) := by
  refine KQ.mk RX2 rfl (by decide +kernel) (Nat.le_of_ble_eq_true rfl) ?_
  intro p e s m below meth c ls X hr w hl
  have hx := X.1
  have hb := X.2.1
  have hl : lv_has ls 2 [(0, .ref (a 0)), (1, .ref (sa 0))] := hl
  refine lv_aload_n hx hb dX2_record_0 rfl (lv_at hl 0 rfl) ?_
  refine r_get X w CL2 1 (by decide) wf_X2_16 0 rfl rfl dX2_record_1 ?_
  refine lv_iconst (v := 4) hx hb dX2_record_4 (by decide) ?_
  refine lv_icmp_lt (tgt := 12) hx hb dX2_record_5 (by decide) (fun c5_1 => ?_) (fun c5_1 => ?_)
  · refine lv_aload_n hx hb dX2_record_12 rfl (lv_at hl 0 rfl) ?_
    refine r_get X w CL2 1 (by decide) wf_X2_16 0 rfl rfl dX2_record_13 ?_
    refine lv_if_lt (tgt := 50) hx hb dX2_record_16 (by decide) (fun c16_2 => ?_) (fun c16_2 => ?_)
    · have hq : fX2_record n o η σ = (n, o, η) := by simp only [fX2_record, if_pos c5_1, if_pos c16_2]
      obtain ⟨h0_, h1_, h2_⟩ := tup3 hq
      rw [h0_, h1_, h2_]
      exact r_vret X w hr dX2_record_50
    · refine lv_aload_n hx hb dX2_record_19 rfl (lv_at hl 0 rfl) ?_
      refine r_get X w CL2 1 (by decide) wf_X2_16 0 rfl rfl dX2_record_20 ?_
      refine lv_iconst (v := 4) hx hb dX2_record_23 (by decide) ?_
      refine lv_icmp_ge (tgt := 50) hx hb dX2_record_24 (by decide) (fun c24_3 => ?_) (fun c24_3 => ?_)
      · have hq : fX2_record n o η σ = (n, o, η) := by simp only [fX2_record, if_pos c5_1, if_neg c16_2, if_pos c24_3]
        obtain ⟨h0_, h1_, h2_⟩ := tup3 hq
        rw [h0_, h1_, h2_]
        exact r_vret X w hr dX2_record_50
      · refine lv_aload_n hx hb dX2_record_27 rfl (lv_at hl 0 rfl) ?_
        refine r_get X w CL2 0 (by decide) wf_X2_11 0 rfl rfl dX2_record_28 ?_
        refine lv_aload_n hx hb dX2_record_31 rfl (lv_at hl 0 rfl) ?_
        refine r_get X w CL2 1 (by decide) wf_X2_16 0 rfl rfl dX2_record_32 ?_
        refine r_aldq X w 1 rfl (vin_ge 4 rfl c16_2 c24_3) (v := (hh ((n.toNatClampNeg + o) % 4) 0)) rfl dX2_record_35 ?_
        refine lv_aload_n hx hb dX2_record_36 rfl (lv_at hl 1 rfl) ?_
        refine r_cv w (r_runV (As := [.ref (sa 0)]) (rest := []) X w (kX4_copyFrom l E (hh ((n.toNatClampNeg + o) % 4)) (η ((n.toNatClampNeg + o) % 4)) sa σ) ck_X2_23 ⟨Nat.le_of_ble_eq_true rfl, Nat.le_of_ble_eq_true rfl⟩ (hsP ((n.toNatClampNeg + o) % 4)) (hsPC (Nat.mod_lt _ (by decide))) (hsPN (Nat.mod_lt _ (by decide))) (k0 := 0) CL4 rfl hl.1 (Nat.le_of_ble_eq_true rfl) rfl dX2_record_37 ⟨Nat.le_of_ble_eq_true rfl, Nat.le_of_ble_eq_true rfl⟩) (wHs E a hh n o (va_up η ((n.toNatClampNeg + o) % 4) σ) ++ wSt E sa σ) (hsP ((n.toNatClampNeg + o) % 4)) (hsPC (Nat.mod_lt _ (by decide))) (hsPN (Nat.mod_lt _ (by decide))) hsA (hsPW (Nat.mod_lt _ (by decide))) (fun H locs w => ?_)
        refine lv_aload_n hx hb dX2_record_40 rfl (lv_at hl 0 rfl) ?_
        refine lv_dup hx hb dX2_record_41 rfl ?_
        refine r_get X w CL2 1 (by decide) wf_X2_16 0 rfl rfl dX2_record_42 ?_
        refine lv_iconst (v := 1) hx hb dX2_record_45 (by decide) ?_
        refine lv_iadd hx hb dX2_record_46 ?_
        refine r_put X w (wHs E a hh (n + 1) o (va_up η ((n.toNatClampNeg + o) % 4) σ) ++ wSt E sa σ) CL2 1 (by decide) wf_X2_16 0 rfl rfl rfl rfl (Nat.le_of_ble_eq_true rfl) (ax_33 (E := E)) dX2_record_47 (fun H locs w => ?_)
        have hq : fX2_record n o η σ = (n + 1, o, va_up η ((n.toNatClampNeg + o) % 4) σ) := by simp only [fX2_record, if_pos c5_1, if_neg c16_2, if_neg c24_3]
        obtain ⟨h0_, h1_, h2_⟩ := tup3 hq
        rw [h0_, h1_, h2_]
        exact r_vret X w hr dX2_record_50
  · refine lv_aload_n hx hb dX2_record_8 rfl (lv_at hl 0 rfl) ?_
    refine r_cv w (r_runV (As := []) (rest := []) X w (kX2_dropOldest l E a hh n o η ) ck_X2_20 ⟨Nat.le_of_ble_eq_true rfl, Nat.le_of_ble_eq_true rfl⟩ [0, 1, 2, 3, 4, 5, 6, 7, 8, 9, 10, 11, 12, 13, 14, 15, 16, 17, 18, 19, 20, 21, 22, 23, 24, 25, 26, 27, 28, 29, 30, 31, 32, 33, 34, 35, 36, 37] (hc_34 (E := E)) (by decide +kernel) (k0 := 0) CL2 rfl hl.1 (Nat.le_of_ble_eq_true rfl) rfl dX2_record_9 ⟨Nat.le_of_ble_eq_true rfl, Nat.le_of_ble_eq_true rfl⟩) (wHs E a hh ((fX2_dropOldest n o η).1) ((fX2_dropOldest n o η).2) η ++ wSt E sa σ) [0, 1, 2, 3, 4, 5, 6, 7, 8, 9, 10, 11, 12, 13, 14, 15, 16, 17, 18, 19, 20, 21, 22, 23, 24, 25, 26, 27, 28, 29, 30, 31, 32, 33, 34, 35, 36, 37] (hc_34 (E := E)) (by decide +kernel) (ha_34 (E := E)) (hw_34 (E := E)) (fun H locs w => ?_)
    refine lv_aload_n hx hb dX2_record_12 rfl (lv_at hl 0 rfl) ?_
    refine r_get X w CL2 1 (by decide) wf_X2_16 0 rfl rfl dX2_record_13 ?_
    refine lv_if_lt (tgt := 50) hx hb dX2_record_16 (by decide) (fun c16_4 => ?_) (fun c16_4 => ?_)
    · have hq : fX2_record n o η σ = ((fX2_dropOldest n o η).1, (fX2_dropOldest n o η).2, η) := by simp only [fX2_record, if_neg c5_1, if_pos c16_4]
      obtain ⟨h0_, h1_, h2_⟩ := tup3 hq
      rw [h0_, h1_, h2_]
      exact r_vret X w hr dX2_record_50
    · refine lv_aload_n hx hb dX2_record_19 rfl (lv_at hl 0 rfl) ?_
      refine r_get X w CL2 1 (by decide) wf_X2_16 0 rfl rfl dX2_record_20 ?_
      refine lv_iconst (v := 4) hx hb dX2_record_23 (by decide) ?_
      refine lv_icmp_ge (tgt := 50) hx hb dX2_record_24 (by decide) (fun c24_5 => ?_) (fun c24_5 => ?_)
      · have hq : fX2_record n o η σ = ((fX2_dropOldest n o η).1, (fX2_dropOldest n o η).2, η) := by simp only [fX2_record, if_neg c5_1, if_neg c16_4, if_pos c24_5]
        obtain ⟨h0_, h1_, h2_⟩ := tup3 hq
        rw [h0_, h1_, h2_]
        exact r_vret X w hr dX2_record_50
      · refine lv_aload_n hx hb dX2_record_27 rfl (lv_at hl 0 rfl) ?_
        refine r_get X w CL2 0 (by decide) wf_X2_11 0 rfl rfl dX2_record_28 ?_
        refine lv_aload_n hx hb dX2_record_31 rfl (lv_at hl 0 rfl) ?_
        refine r_get X w CL2 1 (by decide) wf_X2_16 0 rfl rfl dX2_record_32 ?_
        refine r_aldq X w 1 rfl (vin_ge 4 rfl c16_4 c24_5) (v := (hh ((((fX2_dropOldest n o η).1).toNatClampNeg + ((fX2_dropOldest n o η).2)) % 4) 0)) rfl dX2_record_35 ?_
        refine lv_aload_n hx hb dX2_record_36 rfl (lv_at hl 1 rfl) ?_
        refine r_cv w (r_runV (As := [.ref (sa 0)]) (rest := []) X w (kX4_copyFrom l E (hh ((((fX2_dropOldest n o η).1).toNatClampNeg + ((fX2_dropOldest n o η).2)) % 4)) (η ((((fX2_dropOldest n o η).1).toNatClampNeg + ((fX2_dropOldest n o η).2)) % 4)) sa σ) ck_X2_23 ⟨Nat.le_of_ble_eq_true rfl, Nat.le_of_ble_eq_true rfl⟩ (hsP ((((fX2_dropOldest n o η).1).toNatClampNeg + ((fX2_dropOldest n o η).2)) % 4)) (hsPC (Nat.mod_lt _ (by decide))) (hsPN (Nat.mod_lt _ (by decide))) (k0 := 0) CL4 rfl hl.1 (Nat.le_of_ble_eq_true rfl) rfl dX2_record_37 ⟨Nat.le_of_ble_eq_true rfl, Nat.le_of_ble_eq_true rfl⟩) (wHs E a hh ((fX2_dropOldest n o η).1) ((fX2_dropOldest n o η).2) (va_up η ((((fX2_dropOldest n o η).1).toNatClampNeg + ((fX2_dropOldest n o η).2)) % 4) σ) ++ wSt E sa σ) (hsP ((((fX2_dropOldest n o η).1).toNatClampNeg + ((fX2_dropOldest n o η).2)) % 4)) (hsPC (Nat.mod_lt _ (by decide))) (hsPN (Nat.mod_lt _ (by decide))) hsA (hsPW (Nat.mod_lt _ (by decide))) (fun H locs w => ?_)
        refine lv_aload_n hx hb dX2_record_40 rfl (lv_at hl 0 rfl) ?_
        refine lv_dup hx hb dX2_record_41 rfl ?_
        refine r_get X w CL2 1 (by decide) wf_X2_16 0 rfl rfl dX2_record_42 ?_
        refine lv_iconst (v := 1) hx hb dX2_record_45 (by decide) ?_
        refine lv_iadd hx hb dX2_record_46 ?_
        refine r_put X w (wHs E a hh (((fX2_dropOldest n o η).1) + 1) ((fX2_dropOldest n o η).2) (va_up η ((((fX2_dropOldest n o η).1).toNatClampNeg + ((fX2_dropOldest n o η).2)) % 4) σ) ++ wSt E sa σ) CL2 1 (by decide) wf_X2_16 0 rfl rfl rfl rfl (Nat.le_of_ble_eq_true rfl) (ax_33 (E := E)) dX2_record_47 (fun H locs w => ?_)
        have hq : fX2_record n o η σ = (((fX2_dropOldest n o η).1) + 1, (fX2_dropOldest n o η).2, va_up η ((((fX2_dropOldest n o η).1).toNatClampNeg + ((fX2_dropOldest n o η).2)) % 4) σ) := by simp only [fX2_record, if_neg c5_1, if_neg c16_4, if_neg c24_5]
        obtain ⟨h0_, h1_, h2_⟩ := tup3 hq
        rw [h0_, h1_, h2_]
        exact r_vret X w hr dX2_record_50
