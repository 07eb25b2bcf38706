/-! THE REFERENCE'S OTHER METHODS AS FUNCTIONS -/
def ix (x : Int32) : Nat := x.toNatClampNeg
theorem ix_nI {n : Nat} (h : n < 2147483648) : ix (nI n) = n := nI_clamp h
def thr (M : MS) (k : Int32) : MS := mset M 0 0 k
theorem inB_of {x : Int32} {n : Nat} (hn : n < 2147483648) (h : inB x (nI n) = true) : ∃ j, j < n ∧ x = nI j := by
  unfold inB at h
  simp only [Bool.and_eq_true, Bool.not_eq_true', decide_eq_false_iff_not] at h
  obtain ⟨j, hj, e⟩ := nI_of h.1
  refine ⟨j, ?_, e⟩
  have h2 := h.2
  rw [e] at h2
  rcases Nat.lt_or_ge j n with q | q
  · exact q
  · exact absurd (nI_le q (by omega)) h2
theorem inB_nI {j n : Nat} (hj : j < n) (hn : n < 2147483648) : inB (nI j) (nI n) = true := by
  unfold inB
  simp only [Bool.and_eq_true, Bool.not_eq_true', decide_eq_false_iff_not]
  exact ⟨nI_pos (by omega), nI_ge hj hn⟩
theorem inB_f {j n : Nat} (hj : n ≤ j) (hj2 : j < 2147483648) : inB (nI j) (nI n) = false := by
  unfold inB
  simp only [Bool.and_eq_false_iff, Bool.not_eq_false', decide_eq_true_eq]
  exact Or.inr (nI_le hj hj2)
/-- the last index below n with p -/
def lastP (p : Nat → Bool) : Nat → Option Nat
  | 0 => none
  | n + 1 => if p n = true then some n else lastP p n
theorem lastP_t {p : Nat → Bool} {n : Nat} (h : p n = true) : lastP p (n + 1) = some n := by rw [lastP, if_pos h]
theorem lastP_f {p : Nat → Bool} {n : Nat} (h : p n = false) : lastP p (n + 1) = lastP p n := by rw [lastP, if_neg (by rw [h]; exact fun q => by cases q)]
theorem lastP_lt {p : Nat → Bool} : ∀ {n k : Nat}, lastP p n = some k → k < n ∧ p k = true
  | 0, k, h => by simp [lastP] at h
  | n + 1, k, h => by
    cases hp : p n with
    | true => rw [lastP_t hp] at h; cases h; exact ⟨Nat.lt_succ_self _, hp⟩
    | false => rw [lastP_f hp] at h; have := lastP_lt h; exact ⟨by omega, this.2⟩
theorem lastP_none {p : Nat → Bool} : ∀ {n : Nat}, lastP p n = none ↔ ∀ k, k < n → p k = false
  | 0 => by simp [lastP]
  | n + 1 => by
    cases hp : p n with
    | true =>
      rw [lastP_t hp]
      exact ⟨fun h => (by cases h), fun h => by rw [h n (Nat.lt_succ_self n)] at hp; cases hp⟩
    | false =>
      rw [lastP_f hp, lastP_none]
      exact ⟨fun h k hk => if e : k = n then (by rw [e]; exact hp) else h k (by omega), fun h k hk => h k (by omega)⟩
def anyB (p : Nat → Bool) : Nat → Bool
  | 0 => false
  | n + 1 => anyB p n || p n
theorem anyB_t {p : Nat → Bool} : ∀ {n : Nat}, anyB p n = true ↔ ∃ k, k < n ∧ p k = true
  | 0 => by simp [anyB]
  | n + 1 => by
    rw [anyB, Bool.or_eq_true, anyB_t]
    constructor
    · rintro (⟨k, a, b⟩ | h)
      · exact ⟨k, by omega, b⟩
      · exact ⟨n, by omega, h⟩
    · rintro ⟨k, a, b⟩
      by_cases e : k = n
      · right; rw [← e]; exact b
      · left; exact ⟨k, by omega, b⟩
/-- the robot that carries a tray, or goes for it -/
def rwA (M : MS) (t : Int32) (goes : Bool) : Option Nat := lastP (fun k => decide (M 21 k = t) && (decide (M 20 k = 1) == goes)) (nR M)
def lnB (M : MS) (o l : Int32) : Bool := inB o (nI (nO M)) && inB l (nI (nL M (ix o)))
/-- a robot gets a state -/
def becF (M : MS) (r : Nat) (st : Int32) : MS :=
  mset (mset (mset (mset (mset M 20 r st) 23 r (-1)) 24 r (-1)) 22 r (if st = 1 ∨ st = 2 ∨ st = 3 then M 22 r else -1)) 21 r (if st = 0 then -1 else M 21 r)
-- public methods: what is thrown, the new state
def wallT (M : MS) (x : Int32) : Int32 := if inB x 64 = true then (if M 2 (ix x) = 0 ∧ hmA M x = none ∧ stA M x = none ∧ rbA M x = none then 0 else 2) else 1
def wallF (M : MS) (x : Int32) : MS := if wallT M x = 0 then mset (thr M 0) 2 (ix x) (bI true) else thr M (wallT M x)
def cellT (x : Int32) : Int32 := if inB x 64 = true then 0 else 1
def closeF (M : MS) (x : Int32) (b : Bool) : MS := if cellT x = 0 then mset (thr M 0) 3 (ix x) (bI b) else thr M 1
def closeR (M : MS) (x : Int32) : Bool := inB x 64 && decide (¬ M 3 (ix x) = 0)
def distT (x y : Int32) : Int32 := if inB x 64 = true ∧ inB y 64 = true then 0 else 1
noncomputable def distR (M : MS) (x y : Int32) : Int32 := if distT x y = 0 then oI (dGM M (ix x) (ix y)) else 0
def stnT (M : MS) (x : Int32) : Int32 := if inB x 64 = true then (if M 2 (ix x) = 0 ∧ stA M x = none ∧ ¬ nS M = 3 then 0 else 2) else 1
def stnF (M : MS) (x : Int32) : MS := if stnT M x = 0 then mset (mset (thr M 0) 5 (nS M) x) 4 0 (nI (nS M + 1)) else thr M (stnT M x)
def stnR (M : MS) (x : Int32) : Int32 := if stnT M x = 0 then nI (nS M) else 0
def trayT (M : MS) (h g a : Int32) : Int32 := if inB h 64 = true ∧ inB g 6 = true ∧ inB a 101 = true then (if M 2 (ix h) = 0 ∧ hmA M h = none ∧ ¬ nT M = 16 then 0 else 2) else 1
def trayF (M : MS) (h g a : Int32) : MS := if trayT M h g a = 0 then mset (mset (mset (mset (mset (thr M 0) 7 (nT M) h) 8 (nT M) g) 9 (nT M) a) 32 (ix g) (M 32 (ix g) + a)) 6 0 (nI (nT M + 1)) else thr M (trayT M h g a)
def trayR (M : MS) (h g a : Int32) : Int32 := if trayT M h g a = 0 then nI (nT M) else 0
def fillT (M : MS) (t a : Int32) : Int32 := if inB t (nI (nT M)) = true then (if a < 1 ∨ ¬ a ≤ 100 then 2 else if rwA M t false = none then 0 else 3) else 1
def fillF (M : MS) (t a : Int32) : MS := if fillT M t a = 0 then mset (mset (thr M 0) 9 (ix t) (M 9 (ix t) + a)) 32 (ix (M 8 (ix t))) (M 32 (ix (M 8 (ix t))) + a) else thr M (fillT M t a)
def fillR (M : MS) (t a : Int32) : Int32 := if fillT M t a = 0 then M 9 (ix t) + a else 0
def ordT (M : MS) : Int32 := if nO M = 10 then 1 else 0
def ordF (M : MS) : MS := if ordT M = 0 then mset (thr M 0) 10 0 (nI (nO M + 1)) else thr M (ordT M)
def ordR (M : MS) : Int32 := if ordT M = 0 then nI (nO M) else 0
def lineT (M : MS) (o g a : Int32) : Int32 := if inB o (nI (nO M)) = true then (if inB g 6 = true ∧ ¬ a < 1 ∧ a ≤ 50 then (if nL M (ix o) = 3 then 3 else 0) else 2) else 1
def lineF (M : MS) (o g a : Int32) : MS := if lineT M o g a = 0 then mset (mset (mset (mset (thr M 0) 12 (3 * ix o + nL M (ix o)) g) 13 (3 * ix o + nL M (ix o)) a) 14 (3 * ix o + nL M (ix o)) (-1)) 11 (ix o) (nI (nL M (ix o) + 1)) else thr M (lineT M o g a)
def lineR (M : MS) (o g a : Int32) : Int32 := if lineT M o g a = 0 then nI (nL M (ix o)) else 0
def clmT (M : MS) (s o l : Int32) : Int32 := if inB s (nI (nS M)) = true ∧ lnB M o l = true then (if M 14 (3 * ix o + ix l) = -1 then 0 else 2) else 1
def clmF (M : MS) (s o l : Int32) : MS := if clmT M s o l = 0 then mset (mset (mset (thr M 0) 16 0 (M 16 0 + 1)) 14 (3 * ix o + ix l) s) 15 (3 * ix o + ix l) (M 16 0 + 1) else thr M (clmT M s o l)
/-- a line that is there -/
def VL (M : MS) (k : Nat) : Bool := decide (k / 3 < nO M) && decide (k % 3 < nL M (k / 3))
def cntC (M : MS) (s : Int32) : Nat → Nat
  | 0 => 0
  | k + 1 => cntC M s k + (if VL M k = true ∧ M 14 k = s then 1 else 0)
def clmR (M : MS) (s o l : Int32) : Int32 := if clmT M s o l = 0 then nI (cntC (clmF M s o l) s 30) else 0
def gvT (M : MS) (o l : Int32) : Int32 := if lnB M o l = true then (if M 14 (3 * ix o + ix l) = -1 then 2 else 0) else 1
def gvGo (k : Nat) : Nat → MS → MS
  | 0, M => M
  | n + 1, M => let M1 := gvGo k n M; if M1 22 n = nI k then becF M1 n (if M1 20 n = 1 then 0 else 4) else M1
def gvF (M : MS) (o l : Int32) : MS := if gvT M o l = 0 then gvGo (3 * ix o + ix l) (nR M) (mset (thr M 0) 14 (3 * ix o + ix l) (-1)) else thr M (gvT M o l)
def gvR (M : MS) (o l : Int32) : Int32 := if gvT M o l = 0 then M 14 (3 * ix o + ix l) else 0
def lnT (M : MS) (o l : Int32) : Int32 := if lnB M o l = true then 0 else 1
def leftR (M : MS) (o l : Int32) : Int32 := if lnT M o l = 0 then M 13 (3 * ix o + ix l) else 0
def clnR (M : MS) (o l : Int32) : Int32 := if lnT M o l = 0 then M 14 (3 * ix o + ix l) else 0
def tT (M : MS) (t : Int32) : Int32 := if inB t (nI (nT M)) = true then 0 else 1
def amtR (M : MS) (t : Int32) : Int32 := if tT M t = 0 then M 9 (ix t) else 0
def tcR (M : MS) (t : Int32) : Int32 := if tT M t = 0 then (match rwA M t false with | none => M 7 (ix t) | some r => M 18 r) else 0
def robT (M : MS) (c k : Int32) : Int32 := if inB c 64 = true ∧ inB k 10 = true then (if M 2 (ix c) = 0 ∧ rbA M c = none ∧ ¬ nR M = 6 then 0 else 2) else 1
def robF (M : MS) (c k : Int32) : MS := if robT M c k = 0 then becF (mset (mset (mset (thr M 0) 18 (nR M) c) 19 (nR M) k) 17 0 (nI (nR M + 1))) (nR M) 0 else thr M (robT M c k)
def robR (M : MS) (c k : Int32) : Int32 := if robT M c k = 0 then nI (nR M) else 0
def dieT (M : MS) (r : Int32) : Int32 := if inB r (nI (nR M)) = true then (if M 20 (ix r) = 5 then 2 else 0) else 1
def dieF (M : MS) (r : Int32) : MS := if dieT M r = 0 then becF (mset (thr M 0) 21 (ix r) (if M 20 (ix r) = 1 then -1 else M 21 (ix r))) (ix r) 5 else thr M (dieT M r)
def dieR (M : MS) (r : Int32) : Int32 := if dieT M r = 0 then (if M 20 (ix r) = 1 then -1 else M 21 (ix r)) else 0
def repT (M : MS) (r : Int32) : Int32 := if inB r (nI (nR M)) = true then (if M 20 (ix r) = 5 then 0 else 2) else 1
def repF (M : MS) (r : Int32) : MS := if repT M r = 0 then becF (thr M 0) (ix r) (if M 21 (ix r) = -1 then 0 else 4) else thr M (repT M r)
def repR (M : MS) (r : Int32) : Int32 := if repT M r = 0 then (if M 21 (ix r) = -1 then 0 else 4) else 0
def rinR (M : MS) (c : Int32) : Int32 := if cellT c = 0 then oI (rbA M c) else 0
def rT (M : MS) (r : Int32) : Int32 := if inB r (nI (nR M)) = true then 0 else 1
def rowR (M : MS) (k : Nat) (r : Int32) : Int32 := if rT M r = 0 then M k (ix r) else 0
def gT (g : Int32) : Int32 := if inB g 6 = true then 0 else 1
def stkGo (M : MS) (g : Int32) : Nat → Int32
  | 0 => 0
  | t + 1 => stkGo M g t + (if M 8 t = g then M 9 t else 0)
def stkR (M : MS) (g : Int32) : Int32 := if gT g = 0 then stkGo M g (nT M) else 0
def sbpR (M : MS) (g : Int32) : Int32 := if gT g = 0 then M 32 (ix g) - M 33 (ix g) else 0
def pT (M : MS) (i : Int32) : Int32 := if inB i (nI (nP M)) = true then 0 else 1
def pckR (M : MS) (k : Nat) (i : Int32) : Int32 := if pT M i = 0 then M k (ix i) else 0
theorem bI0 (b : Bool) : (0 = bI b) ↔ b = false := by cases b <;> simp [bI]
theorem bI1 (b : Bool) : (1 = bI b) ↔ b = true := by cases b <;> simp [bI]
theorem gvGo_row {K : Nat} {k : Nat} (hk : ¬ (20 ≤ k ∧ k ≤ 24)) : ∀ (n : Nat) (M : MS), gvGo K n M k = M k
  | 0, M => rfl
  | n + 1, M => by
    unfold gvGo
    dsimp only
    split
    · unfold becF
      rw [mset_n _ _ _ (by omega), mset_n _ _ _ (by omega), mset_n _ _ _ (by omega), mset_n _ _ _ (by omega), mset_n _ _ _ (by omega)]
      exact gvGo_row hk n M
    · exact gvGo_row hk n M
theorem gvGo_t {K n : Nat} {M : MS} (h : gvGo K n M 22 n = nI K) : gvGo K (n + 1) M = becF (gvGo K n M) n (if gvGo K n M 20 n = 1 then 0 else 4) := by
  rw [gvGo, if_pos h]
theorem gvGo_f {K n : Nat} {M : MS} (h : ¬ gvGo K n M 22 n = nI K) : gvGo K (n + 1) M = gvGo K n M := by
  rw [gvGo, if_neg h]
theorem lnB_VL {M : MS} (hc : CNT M) {k : Nat} (hk : k < 30) : lnB M (nI (k / 3)) (nI (k % 3)) = VL M k := by
  have h10 := hc.O10
  have e1 : ix (nI (k / 3)) = k / 3 := ix_nI (by omega)
  unfold lnB VL
  rw [e1]
  have h3 := hc.L3 (o := k / 3) (by omega)
  congr 1
  · by_cases q : k / 3 < nO M
    · rw [inB_nI q (by omega), decide_eq_true q]
    · rw [inB_f (by omega) (by omega), decide_eq_false q]
  · by_cases q : k % 3 < nL M (k / 3)
    · rw [inB_nI q (by omega), decide_eq_true q]
    · rw [inB_f (by omega) (by omega), decide_eq_false q]
theorem VL_lt {M : MS} (hc : CNT M) {k : Nat} (h : VL M k = true) : k < 30 := by
  unfold VL at h
  simp only [Bool.and_eq_true, decide_eq_true_eq] at h
  have := hc.O10
  omega
theorem cntC_t {M : MS} {s : Int32} {k : Nat} (h : VL M k = true) (h2 : M 14 k = s) : cntC M s (k + 1) = cntC M s k + 1 := by rw [cntC, if_pos ⟨h, h2⟩]
theorem cntC_f {M : MS} {s : Int32} {k : Nat} (h : ¬ (VL M k = true ∧ M 14 k = s)) : cntC M s (k + 1) = cntC M s k := by rw [cntC, if_neg h, Nat.add_zero]
theorem cntC_le (M : MS) (s : Int32) : ∀ k, cntC M s k ≤ k
  | 0 => Nat.le_refl _
  | k + 1 => by rw [cntC]; have := cntC_le M s k; split <;> omega
theorem dGM_thr (M : MS) (k : Int32) (f t : Nat) : dGM (mset M 0 0 k) f t = dGM M f t := rfl
theorem lnB_of {M : MS} (hc : CNT M) {o l : Int32} (h : lnB M o l = true) : ∃ jo jl, jo < nO M ∧ jl < nL M jo ∧ o = nI jo ∧ l = nI jl := by
  unfold lnB at h
  simp only [Bool.and_eq_true] at h
  have h10 := hc.O10
  obtain ⟨jo, a, rfl⟩ := inB_of (n := nO M) (by omega) h.1
  have h2 := h.2
  rw [ix_nI (by omega)] at h2
  have h3 := hc.L3 (o := jo) (by omega)
  obtain ⟨jl, b, rfl⟩ := inB_of (n := nL M jo) (by omega) h2
  exact ⟨jo, jl, a, b, rfl, rfl⟩
