/-! THE TICK OF THE REFERENCE AS FUNCTIONS, second half; what holds all along -/
def nC (M : MS) : Nat := (M 16 0).toNatClampNeg
def tN (M : MS) : Nat := (M 1 0).toNatClampNeg
def pot (M : MS) (k : Nat) : Nat := if VL M k = true then (M 13 k).toNatClampNeg else 50
/-- what holds of a robot -/
def okS (M : MS) (r : Nat) : Prop :=
  (M 20 r = 0 ∧ M 21 r = -1 ∧ M 22 r = -1) ∨
  ((M 20 r = 1 ∨ M 20 r = 2 ∨ M 20 r = 3) ∧ (∃ t, t < nT M ∧ M 21 r = nI t) ∧ ∃ k s n, VL M k = true ∧ M 22 r = nI k ∧ s < nS M ∧ M 14 k = nI s ∧ 0 < n ∧ n ≤ 50 ∧ M 13 k = nI n) ∨
  (M 20 r = 4 ∧ (∃ t, t < nT M ∧ M 21 r = nI t) ∧ M 22 r = -1) ∨
  (M 20 r = 5 ∧ (M 21 r = -1 ∨ ∃ t, t < nT M ∧ M 21 r = nI t) ∧ M 22 r = -1)
def isC (x : Int32) : Prop := ∃ j, j < 64 ∧ x = nI j
def okR (M : MS) (r : Nat) : Prop :=
  isC (M 18 r) ∧ okS M r ∧ (M 24 r = -1 ∨ (isC (M 24 r) ∧ (M 20 r = 1 ∨ M 20 r = 2 ∨ M 20 r = 4))) ∧ (M 23 r = -1 ∨ isC (M 23 r))
def okL (M : MS) (B k : Nat) : Prop := (∃ g, g < 6 ∧ M 12 k = nI g) ∧ (∃ n, n ≤ 50 ∧ M 13 k = nI n) ∧ (M 14 k = -1 ∨ ∃ s c, s < nS M ∧ M 14 k = nI s ∧ 0 < c ∧ c ≤ nC M ∧ M 15 k = nI c)
/-- the robots' part -/
def INVr (M : MS) : Prop := (∀ r, r < nR M → okR M r) ∧ (∀ r q, r < nR M → q < nR M → M 18 r = M 18 q → r = q) ∧ (∀ r q, r < nR M → q < nR M → M 21 r = M 21 q → M 21 r ≠ -1 → r = q) ∧
  (∀ r q, r < nR M → q < nR M → M 22 r ≠ -1 → M 22 q ≠ -1 → M 14 (ix (M 22 r)) = M 14 (ix (M 22 q)) → r = q)
/-- the floor's and the orders' part -/
def INVf (B : Nat) (M : MS) : Prop := (∀ o, nO M ≤ o → o < 10 → nL M o = 0) ∧ (∀ t, t < nT M → isC (M 7 t) ∧ ∃ g, g < 6 ∧ M 8 t = nI g) ∧ (∀ s, s < nS M → isC (M 5 s)) ∧
  (∀ k, VL M k = true → okL M B k) ∧ (∀ k q, VL M k = true → VL M q = true → M 14 k ≠ -1 → M 14 q ≠ -1 → M 15 k = M 15 q → k = q) ∧ (∀ j, j < 64 → M 3 j = bI (decide (¬ M 3 j = 0))) ∧
  (M 16 0 = nI (nC M) ∧ nC M ≤ B) ∧ (M 1 0 = nI (tN M) ∧ tN M ≤ 3000)
def INVp (M : MS) : Prop := M 34 0 = nI (nP M) ∧ nP M + fb_sm (pot M) 30 ≤ 1500 ∧ ∀ i, i < nP M → (∃ t, t < nT M ∧ M 35 i = nI t) ∧ ∃ o, o < nO M ∧ M 36 i = nI o
def INV (B : Nat) (M : MS) : Prop := CNT M ∧ INVr M ∧ INVf B M ∧ INVp M
theorem INV.c {B : Nat} {M : MS} (h : INV B M) : CNT M := h.1
theorem INV.r {B : Nat} {M : MS} (h : INV B M) : INVr M := h.2.1
theorem INV.f {B : Nat} {M : MS} (h : INV B M) : INVf B M := h.2.2.1
theorem INV.p {B : Nat} {M : MS} (h : INV B M) : INVp M := h.2.2.2
theorem INV.hH {B : Nat} {M : MS} (h : INV B M) : ∀ t, t < nT M → ∃ j, j < 64 ∧ M 7 t = nI j := fun t ht => (h.f.2.1 t ht).1
theorem INV.hSC {B : Nat} {M : MS} (h : INV B M) : ∀ s, s < nS M → ∃ j, j < 64 ∧ M 5 s = nI j := h.f.2.2.1
theorem INVr.hVC {M : MS} (h : INVr M) : ∀ r, r < nR M → ∃ j, j < 64 ∧ M 18 r = nI j := fun r hr => (h.1 r hr).1
theorem okS.hW {M : MS} {r : Nat} (hc : CNT M) (h : okS M r) : M 22 r = -1 ∨ ∃ k, k < 30 ∧ M 22 r = nI k := by
  rcases h with h | h | h | h
  · exact Or.inl h.2.2
  · obtain ⟨-, -, k, s, n, hv, hk, -⟩ := h
    exact Or.inr ⟨k, VL_lt hc hv, hk⟩
  · exact Or.inl h.2.2
  · exact Or.inl h.2.2
theorem INV.hW {B : Nat} {M : MS} (h : INV B M) : ∀ r, r < nR M → M 22 r = -1 ∨ ∃ k, k < 30 ∧ M 22 r = nI k := fun r hr => (h.r.1 r hr).2.1.hW h.c
theorem okS.go {M : MS} {r : Nat} (hc : CNT M) (h : okS M r) : (M 20 r = 2 → ∃ k, k < 30 ∧ M 22 r = nI k ∧ ∃ s, s < 3 ∧ M 14 k = nI s) ∧ (M 20 r = 1 ∨ M 20 r = 4 → ∃ t, t < 16 ∧ M 21 r = nI t) := by
  have h3 := hc.S3
  have h16 := hc.T16
  have e : ∀ a b : Int32, a ≠ b → ∀ x : Int32, x = a → x = b → False := fun a b hab x h1 h2 => hab (h1.symm.trans h2)
  rcases h with h | h | h | h
  · exact ⟨fun q => (e 0 2 (by decide) _ h.1 q).elim, fun q => q.elim (fun q => (e 0 1 (by decide) _ h.1 q).elim) (fun q => (e 0 4 (by decide) _ h.1 q).elim)⟩
  · obtain ⟨-, ⟨t, ht, htt⟩, k, s, n, hv, hk, hs, hks, -⟩ := h
    exact ⟨fun _ => ⟨k, VL_lt hc hv, hk, s, by omega, hks⟩, fun _ => ⟨t, by omega, htt⟩⟩
  · obtain ⟨h1, ⟨t, ht, htt⟩, -⟩ := h
    exact ⟨fun q => (e 4 2 (by decide) _ h1 q).elim, fun _ => ⟨t, by omega, htt⟩⟩
  · exact ⟨fun q => (e 5 2 (by decide) _ h.1 q).elim, fun q => q.elim (fun q => (e 5 1 (by decide) _ h.1 q).elim) (fun q => (e 5 4 (by decide) _ h.1 q).elim)⟩
/-- a goal is no cell, or one -/
theorem goalV_c {B : Nat} {M : MS} (h : INV B M) {r : Nat} (hr : r < nR M) : goalV M r = -1 ∨ isC (goalV M r) := by
  unfold goalV
  have hg := (h.r.1 r hr).2.1
  split
  · rename_i h2
    right
    rcases hg with q | q | q | q
    · rw [q.1] at h2; exact absurd h2 (by decide)
    · obtain ⟨-, -, k, s, n, hv, hk, hs, hks, -⟩ := q
      have := VL_lt h.c hv
      have := h.c.S3
      rw [hk, ix_nI (by omega), hks, ix_nI (by omega)]
      exact h.f.2.2.1 s hs
    · rw [q.1] at h2; exact absurd h2 (by decide)
    · rw [q.1] at h2; exact absurd h2 (by decide)
  · split
    · rename_i h2
      right
      have : ∃ t, t < nT M ∧ M 21 r = nI t := by
        rcases hg with q | q | q | q
        · rw [q.1] at h2; exact absurd h2 (by decide)
        · exact q.2.1
        · exact q.2.1
        · rw [q.1] at h2; exact absurd h2 (by decide)
      obtain ⟨t, ht, e⟩ := this
      have := h.c.T16
      rw [e, ix_nI (by omega)]
      exact (h.f.2.1 t ht).1
    · exact Or.inl rfl
theorem goalV_s {M : MS} {r : Nat} (h : ¬ goalV M r = -1) : M 20 r = 1 ∨ M 20 r = 2 ∨ M 20 r = 4 := by
  unfold goalV at h
  by_cases h2 : M 20 r = 2
  · exact Or.inr (Or.inl h2)
  · rw [if_neg h2] at h
    by_cases h1 : M 20 r = 1 ∨ M 20 r = 4
    · exact h1.elim Or.inl (fun q => Or.inr (Or.inr q))
    · rw [if_neg h1] at h; exact absurd rfl h
/-- the cell to ask for: by ways that do not go through x -/
noncomputable def nearV (M : MS) (x : Int32) (g c : Nat) : Int32 := oI ((nrst (dS (frX M x) g) c).map (fun q => q.1))
noncomputable def askF (M : MS) (r : Nat) : MS :=
  if ¬ goalV M r = -1 ∧ ¬ goalV M r = M 18 r then
    let a1 := nearV M (M 23 r) (ix (goalV M r)) (ix (M 18 r))
    let a2 := nearV M (-1) (ix (goalV M r)) (ix (M 18 r))
    if a1 = -1 ∧ ¬ M 23 r = -1 then
      mset (mset (mset (mset (mset M 24 r (-1)) 24 r a1) 23 r (-1)) 24 r a2) 25 r (if ¬ a2 = -1 ∧ a2 = M 24 r then M 25 r else M 1 0)
    else mset (mset (mset M 24 r (-1)) 24 r a1) 25 r (if ¬ a1 = -1 ∧ a1 = M 24 r then M 25 r else M 1 0)
  else mset M 24 r (-1)
def mvF (M : MS) (r : Nat) (x : Int32) : MS := mset (mset (mset (mset M 18 r x) 24 r (-1)) 23 r (-1)) 28 0 (M 28 0 + 1)
def nxtA (M : MS) (r : Nat) : Option Nat := if M 24 r = -1 then none else rbA M (M 24 r)
def rgS (M : MS) (r : Nat) : Nat → Nat → Option Nat → Nat
  | 0, n, at_ => if at_ = some r then n else 0
  | f + 1, n, at_ => match at_ with
    | none => 0
    | some a => if r < a ∧ n < 6 then rgS M r f (n + 1) (nxtA M a) else if a = r then n else 0
def rgN (M : MS) (r : Nat) : Nat := rgS M r 6 1 (nxtA M r)
def abvB (M : MS) (a b : Nat) : Bool := decide (M 19 b < M 19 a) || (decide (M 19 a = M 19 b) && decide (a < b))
noncomputable def yldB (M : MS) (r o : Nat) : Bool := (nrst (dS (frX M (M 18 o)) (ix (goalV M r))) (ix (M 18 r))).isSome
def yldG (M : MS) (r o : Nat) : MS := mset (mset (mset M 23 r (M 18 o)) 24 r (-1)) 30 0 (M 30 0 + 1)
def rgI (M : MS) (f : Nat) : Nat → Nat
  | 0 => f
  | i + 1 => (nxtA M (rgI M f i)).getD f
def rgM (M : MS) (f k : Nat) : Bool := anyB (fun i => decide (rgI M f i = k)) (rgN M f)
def trnGo (M0 : MS) (mem : Nat → Bool) : Nat → MS
  | 0 => M0
  | k + 1 => if mem k = true then mvF (trnGo M0 mem k) k (M0 24 k) else trnGo M0 mem k
def trnF (M : MS) (f : Nat) : MS := mset (trnGo M (rgM M f) (nR M)) 29 0 (M 29 0 + 1)
noncomputable def brkF (M : MS) (r : Nat) : MS :=
  let o := (nxtA M r).getD 0
  let low := if abvB M r o = true then o else r
  let high := if abvB M r o = true then r else o
  if yldB M low high = true then yldG M low high else if yldB M high low = true then yldG M high low else mset M 31 0 (M 31 0 + 1)
noncomputable def resS (M : MS) (r : Nat) : MS := if 3 ≤ rgN M r then trnF M r else if rgN M r = 2 then brkF M r else M
noncomputable def itR (f : MS → Nat → MS) : Nat → MS → MS
  | 0, M => M
  | n + 1, M => f (itR f n M) n
def askdB (M : MS) (x : Int32) : Bool := anyB (fun r => decide (M 24 r = x)) (nR M)
def asdf (M : MS) (c w : Nat) : Option Nat := match nbr c w with
  | none => none
  | some x => if opnB M x = true ∧ rbA M (nI x) = none ∧ askdB M (nI x) = false then some x else none
/-- of the ways 3, 2 .. the last one that can be gone -/
def fsW (f : Nat → Option Nat) : Nat → Option Nat
  | 0 => none
  | j + 1 => match f (3 - j) with
    | some x => some x
    | none => fsW f j
def asdF (M : MS) (r : Nat) : MS := match fsW (asdf M (ix (M 18 r))) 4 with
  | none => M
  | some x => mvF M r (nI x)
def ahdB (M : MS) (k : Nat) (f : Option Nat) : Bool := match f with
  | none => true
  | some f => decide (M 25 k < M 25 f) || (decide (M 25 k = M 25 f) && abvB M k f)
def selG (M : MS) (dn : Nat → Bool) : Nat → Option Nat
  | 0 => none
  | k + 1 => if dn k = false ∧ ahdB M k (selG M dn k) = true then some k else selG M dn k
def dn0 (M : MS) (k : Nat) : Bool := decide (nR M ≤ k) || decide (M 24 k = -1)
def goGo (M : MS) : Nat → MS × (Nat → Bool)
  | 0 => (M, dn0 M)
  | t + 1 => match selG (goGo M t).1 (goGo M t).2 (nR M) with
    | none => goGo M t
    | some f => (if rbA (goGo M t).1 ((goGo M t).1 24 f) = none then mvF (goGo M t).1 f ((goGo M t).1 24 f) else (goGo M t).1, fun k => if k = f then true else (goGo M t).2 k)
def goF (M : MS) : MS := (goGo M (nR M)).1
def arrF (M : MS) (r : Nat) : MS := if goalV M r = M 18 r then becF M r (if M 20 r = 1 then 2 else if M 20 r = 2 then 3 else 0) else M
def pkS (M : MS) (r : Nat) : MS := if M 20 r = 3 then pkF M r else M
def asS (M : MS) (r : Nat) : MS := if M 20 r = 0 ∧ askdB M (M 18 r) = true then asdF M r else M
noncomputable def ps1 (M : MS) : MS := itR pkS (nR M) (mset M 1 0 (M 1 0 + 1))
noncomputable def ps2 (M : MS) : MS := itR srvF (nS M) (ps1 M)
noncomputable def ps3 (M : MS) : MS := itR askF (nR M) (ps2 M)
noncomputable def ps4 (M : MS) : MS := itR resS (nR M) (ps3 M)
noncomputable def ps5 (M : MS) : MS := itR asS (nR M) (ps4 M)
noncomputable def ps6 (M : MS) : MS := goF (ps5 M)
noncomputable def pasF (M : MS) : MS := itR arrF (nR M) (ps6 M)
noncomputable def itP : Nat → MS → MS
  | 0, M => M
  | n + 1, M => pasF (itP n M)
def tkT (M : MS) (x : Int32) : Int32 := if x < 1 ∨ ¬ x ≤ 50 then 1 else if ¬ M 1 0 + x ≤ 3000 then 2 else 0
noncomputable def tkF (M : MS) (x : Int32) : MS := if tkT M x = 0 then itP (ix x) (thr M 0) else thr M (tkT M x)
noncomputable def tkR (M : MS) (x : Int32) : Int32 := if tkT M x = 0 then (tkF M x) 34 0 - M 34 0 else 0
theorem m1_le {k : Nat} (h : k < 2147483648) : (-1 : Int32) ≤ nI k := by
  rw [Int32.le_iff_toInt_le, nI_toInt h]
  have : (-1 : Int32).toInt = -1 := by decide
  omega
def wlI (j : Nat) : Int32 := if j = 4 then -1 else nI (3 - j)
theorem wlI_lt {j : Nat} (h : j < 4) : wlI j = nI (3 - j) := if_neg (by omega)
theorem wlI_4 {j : Nat} (h : j = 4) : wlI j = -1 := if_pos h
theorem wlI_dec {j : Nat} (h : j < 4) : nI (3 - j) + Int32.ofInt (-1) = wlI (j + 1) := by
  match j, h with
  | 0, _ => decide
  | 1, _ => decide
  | 2, _ => decide
  | 3, _ => decide
theorem nxtA_lt {M : MS} {r q : Nat} (h : nxtA M r = some q) : q < nR M ∧ M 18 q = M 24 r ∧ ¬ M 24 r = -1 := by
  unfold nxtA at h
  split at h
  · cases h
  · rename_i hn
    have := lastE_lt h
    exact ⟨this.1, this.2, hn⟩
