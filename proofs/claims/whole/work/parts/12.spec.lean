/-! THE REFERENCE'S METHODS AS FUNCTIONS -/
def nR (M : MS) : Nat := (M 17 0).toNatClampNeg
def nS (M : MS) : Nat := (M 4 0).toNatClampNeg
def nT (M : MS) : Nat := (M 6 0).toNatClampNeg
def nO (M : MS) : Nat := (M 10 0).toNatClampNeg
def nL (M : MS) (o : Nat) : Nat := (M 11 o).toNatClampNeg
def nP (M : MS) : Nat := (M 34 0).toNatClampNeg
/-- the counts -/
def CNT (M : MS) : Prop := (M 17 0 = nI (nR M) ∧ nR M ≤ 6) ∧ (M 4 0 = nI (nS M) ∧ nS M ≤ 3) ∧ (M 6 0 = nI (nT M) ∧ nT M ≤ 16) ∧ (M 10 0 = nI (nO M) ∧ nO M ≤ 10) ∧ ∀ o, o < 10 → M 11 o = nI (nL M o) ∧ nL M o ≤ 3
theorem CNT.R {M : MS} (h : CNT M) : M 17 0 = nI (nR M) := h.1.1
theorem CNT.R6 {M : MS} (h : CNT M) : nR M ≤ 6 := h.1.2
theorem CNT.S {M : MS} (h : CNT M) : M 4 0 = nI (nS M) := h.2.1.1
theorem CNT.S3 {M : MS} (h : CNT M) : nS M ≤ 3 := h.2.1.2
theorem CNT.T {M : MS} (h : CNT M) : M 6 0 = nI (nT M) := h.2.2.1.1
theorem CNT.T16 {M : MS} (h : CNT M) : nT M ≤ 16 := h.2.2.1.2
theorem CNT.O {M : MS} (h : CNT M) : M 10 0 = nI (nO M) := h.2.2.2.1.1
theorem CNT.O10 {M : MS} (h : CNT M) : nO M ≤ 10 := h.2.2.2.1.2
theorem CNT.L {M : MS} (h : CNT M) {o : Nat} (ho : o < 10) : M 11 o = nI (nL M o) := (h.2.2.2.2 o ho).1
theorem CNT.L3 {M : MS} (h : CNT M) {o : Nat} (ho : o < 10) : nL M o ≤ 3 := (h.2.2.2.2 o ho).2
def cntRow (k : Nat) : Bool := k == 17 || k == 4 || k == 6 || k == 10 || k == 11
theorem CNT.congr {M M' : MS} (h : CNT M) (e : ∀ k, cntRow k = true → M' k = M k) : CNT M' := by
  have e1 := e 17 rfl
  have e2 := e 4 rfl
  have e3 := e 6 rfl
  have e4 := e 10 rfl
  have e5 := e 11 rfl
  unfold CNT nR nS nT nO nL at *
  rw [e1, e2, e3, e4, e5]
  exact h
theorem CNT.set {M : MS} (h : CNT M) {k j : Nat} {v : Int32} (hk : cntRow k = false) : CNT (mset M k j v) :=
  h.congr (fun k' hk' => mset_n M j v (fun e => by rw [e, hk] at hk'; cases hk'))
/-- the last index below n at which f is x -/
def lastE (f : Nat → Int32) (x : Int32) : Nat → Option Nat
  | 0 => none
  | n + 1 => if f n = x then some n else lastE f x n
def rbA (M : MS) (x : Int32) : Option Nat := lastE (M 18) x (nR M)
def stA (M : MS) (x : Int32) : Option Nat := lastE (M 5) x (nS M)
def hmA (M : MS) (x : Int32) : Option Nat := lastE (M 7) x (nT M)
theorem lastE_lt {f : Nat → Int32} {x : Int32} : ∀ {n k : Nat}, lastE f x n = some k → k < n ∧ f k = x
  | 0, k, h => by simp [lastE] at h
  | n + 1, k, h => by
    unfold lastE at h
    split at h
    · cases h; exact ⟨Nat.lt_succ_self _, by assumption⟩
    · have := lastE_lt h; exact ⟨by omega, this.2⟩
theorem lastE_none {f : Nat → Int32} {x : Int32} : ∀ {n : Nat}, lastE f x n = none ↔ ∀ k, k < n → f k ≠ x
  | 0 => by simp [lastE]
  | n + 1 => by
    unfold lastE
    split
    · rename_i h
      simp only [reduceCtorEq, false_iff]
      exact fun q => q n (Nat.lt_succ_self n) h
    · rename_i h
      rw [lastE_none]
      exact ⟨fun q k hk => if e : k = n then by rw [e]; exact h else q k (by omega), fun q k hk => q k (by omega)⟩
theorem lastE_step_t {f : Nat → Int32} {x : Int32} {n : Nat} (h : f n = x) : lastE f x (n + 1) = some n := by rw [lastE, if_pos h]
theorem lastE_step_f {f : Nat → Int32} {x : Int32} {n : Nat} (h : ¬ f n = x) : lastE f x (n + 1) = lastE f x n := by rw [lastE, if_neg h]
def inB (v n : Int32) : Bool := !decide (v < 0) && !decide (n ≤ v)
/-- a cell is open -/
def opnB (M : MS) (j : Nat) : Bool := decide (M 2 j = 0) && (decide (M 3 j = 0) && (match rbA M (nI j) with | none => true | some r => decide (¬ M 20 r = 5)))
/-- neighbours: 0 above, 1 left, 2 right, 3 below -/
def nbr (j way : Nat) : Option Nat := match way with
  | 0 => if 8 ≤ j then some (j - 8) else none
  | 1 => if j % 8 = 0 then none else some (j - 1)
  | 2 => if j % 8 = 7 then none else some (j + 1)
  | _ => if j < 56 then some (j + 8) else none
