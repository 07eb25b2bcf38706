/-! THE TICK OF THE REFERENCE AS FUNCTIONS, first half -/
def pkB (M : MS) (r : Nat) : MS :=
  let k := ix (M 22 r)
  let t := ix (M 21 r)
  mset (mset (mset (mset (mset (mset (mset M 9 t (M 9 t - 1)) 13 k (M 13 k - 1)) 33 (ix (M 8 t)) (M 33 (ix (M 8 t)) + 1)) 35 (nP M) (M 21 r)) 36 (nP M) (nI (k / 3))) 37 (nP M) (M 1 0)) 34 0 (nI (nP M + 1))
def pkF (M : MS) (r : Nat) : MS := if M 13 (ix (M 22 r)) - 1 = 0 ∨ M 9 (ix (M 21 r)) - 1 = 0 then becF (pkB M r) r 4 else pkB M r
def wkB (M : MS) (s : Int32) (r : Nat) : Bool := decide (¬ M 22 r = -1) && decide (M 14 (ix (M 22 r)) = s)
def hasB (M : MS) (s : Int32) : Bool := anyB (wkB M s) (nR M)
def canT (M : MS) (k t : Nat) : Bool := decide (M 8 t = M 12 k) && (decide (¬ M 9 t ≤ 0) && (decide (rwA M (nI t) false = none) && decide (rwA M (nI t) true = none)))
noncomputable def tfF (M : MS) (s k t : Nat) : Option (Nat × Nat) := if canT M k t = true then (dGM M (ix (M 5 s)) (ix (M 7 t))).map (fun n => (t, n)) else none
noncomputable def trayB (M : MS) (s k : Nat) : Option (Nat × Nat) := bst (tfF M s k) (nT M)
noncomputable def rfF (M : MS) (h r : Nat) : Option (Nat × Nat) := if M 20 r = 0 then (dGM M (ix (M 18 r)) h).map (fun n => (r, n)) else none
noncomputable def robB (M : MS) (h : Nat) : Option (Nat × Nat) := bst (rfF M h) (nR M)
noncomputable def sndF (M : MS) (s k : Nat) : Option MS := match trayB M s k with
  | none => none
  | some p => match robB M (ix (M 7 p.1)) with
    | none => none
    | some q => some (becF (mset (mset M 22 q.1 (nI k)) 21 q.1 (nI p.1)) q.1 1)
def cndL (M : MS) (s : Int32) (af : Int32) (k : Nat) : Bool := VL M k && (decide (M 14 k = s) && decide (¬ M 15 k ≤ af))
/-- of the lines of a station, claimed behind 'af', the one claimed first -/
def nlGo (M : MS) (s af : Int32) : Nat → Option Nat
  | 0 => none
  | k + 1 => if cndL M s af k = true then (match nlGo M s af k with | none => some k | some b => if M 15 k < M 15 b then some k else some b) else nlGo M s af k
theorem nlGo_f {M : MS} {s af : Int32} {k : Nat} (h : cndL M s af k = false) : nlGo M s af (k + 1) = nlGo M s af k := by rw [nlGo, if_neg (by rw [h]; exact fun q => by cases q)]
theorem nlGo_n {M : MS} {s af : Int32} {k : Nat} (h : cndL M s af k = true) (h0 : nlGo M s af k = none) : nlGo M s af (k + 1) = some k := by rw [nlGo, if_pos h, h0]
theorem nlGo_lt {M : MS} {s af : Int32} {k b : Nat} (h : cndL M s af k = true) (h0 : nlGo M s af k = some b) (hl : M 15 k < M 15 b) : nlGo M s af (k + 1) = some k := by rw [nlGo, if_pos h, h0]; exact if_pos hl
theorem nlGo_ge {M : MS} {s af : Int32} {k b : Nat} (h : cndL M s af k = true) (h0 : nlGo M s af k = some b) (hl : ¬ M 15 k < M 15 b) : nlGo M s af (k + 1) = some b := by rw [nlGo, if_pos h, h0]; exact if_neg hl
theorem nlGo_in {M : MS} {s af : Int32} : ∀ {n k : Nat}, nlGo M s af n = some k → k < n ∧ cndL M s af k = true
  | 0, k, h => by simp [nlGo] at h
  | n + 1, k, h => by
    cases hc : cndL M s af n with
    | false => rw [nlGo_f hc] at h; have := nlGo_in h; exact ⟨by omega, this.2⟩
    | true =>
      cases hb : nlGo M s af n with
      | none => rw [nlGo_n hc hb] at h; cases h; exact ⟨by omega, hc⟩
      | some b =>
        by_cases hl : M 15 n < M 15 b
        · rw [nlGo_lt hc hb hl] at h; cases h; exact ⟨by omega, hc⟩
        · rw [nlGo_ge hc hb hl] at h; cases h; have := nlGo_in hb; exact ⟨by omega, this.2⟩
def remN (M : MS) (s af : Int32) : Nat := fb_ct (cndL M s af) 30
noncomputable def srvW (s : Nat) : Nat → MS → Int32 → MS
  | 0, M, _ => M
  | f + 1, M, af => match nlGo M (nI s) af 30 with
    | none => M
    | some k => if M 13 k ≤ 0 then srvW s f M (M 15 k) else match sndF M s k with
      | some M' => M'
      | none => srvW s f M (M 15 k)
noncomputable def srvF (M : MS) (s : Nat) : MS := if hasB M (nI s) = true then M else srvW s 31 M 0
theorem remN_lt {M : MS} {s af : Int32} {k : Nat} (hk : k < 30) (h : cndL M s af k = true) : remN M s (M 15 k) < remN M s af := by
  have h1 := fb_ct_upd (cndL M s af) false (i := k) (n := 30) hk
  rw [if_pos h] at h1
  have h2 : fb_ct (cndL M s (M 15 k)) 30 ≤ fb_ct (fun j => if j = k then false else cndL M s af j) 30 := by
    refine fb_ct_sub (fun j hj hc => ?_)
    unfold cndL at hc h
    simp only [Bool.and_eq_true, decide_eq_true_eq] at hc h
    by_cases e : j = k
    · subst e
      exact absurd (Int32.le_refl _) hc.2.2
    · rw [if_neg e]
      unfold cndL
      simp only [Bool.and_eq_true, decide_eq_true_eq]
      refine ⟨hc.1, hc.2.1, fun q => hc.2.2 (Int32.le_trans q ?_)⟩
      exact Int32.le_of_lt (Int32.not_le.mp h.2.2)
  unfold remN
  simp only [Bool.false_eq_true, if_false] at h1
  omega
theorem srvW_fuel {s : Nat} {M : MS} : ∀ (f f' : Nat) (af : Int32), remN M (nI s) af < f → remN M (nI s) af < f' → srvW s f M af = srvW s f' M af
  | 0, _, _, h, _ => by omega
  | _ + 1, 0, _, _, h => by omega
  | f + 1, f' + 1, af, h, h' => by
    unfold srvW
    cases hn : nlGo M (nI s) af 30 with
    | none => rfl
    | some k =>
      obtain ⟨a, b⟩ := nlGo_in hn
      have := remN_lt a b
      have e := srvW_fuel (s := s) (M := M) f f' (M 15 k) (by omega) (by omega)
      dsimp only
      rw [e]
def goalV (M : MS) (r : Nat) : Int32 := if M 20 r = 2 then M 5 (ix (M 14 (ix (M 22 r)))) else if M 20 r = 1 ∨ M 20 r = 4 then M 7 (ix (M 21 r)) else -1
theorem dGM_64 {M : MS} {f t n : Nat} (hf : f < 64) (ht : t < 64) (h : dGM M f t = some n) : n ≤ 64 := by
  unfold dGM at h
  split at h
  · cases h; omega
  · cases hn : nrst (dS (frX M (-1)) t) f with
    | none => rw [hn] at h; cases h
    | some p =>
      rw [hn] at h
      cases h
      have h1 := bst_nb hf (Nat.le_refl 4) hn
      have h2 := dS_64 ht h1.1 h1.2
      show p.2 + 1 ≤ 64
      omega
theorem trayB_lt {M : MS} {s k : Nat} {p : Nat × Nat} (h : trayB M s k = some p) : p.1 < nT M ∧ canT M k p.1 = true := by
  obtain ⟨i, a, b⟩ := bst_in h
  unfold tfF at b
  cases hc : canT M k i with
  | false => rw [hc] at b; simp at b
  | true =>
    rw [hc] at b
    simp only [if_true] at b
    cases hd : dGM M (ix (M 5 s)) (ix (M 7 i)) with
    | none => rw [hd] at b; simp at b
    | some n => rw [hd] at b; simp at b; subst b; exact ⟨a, hc⟩
theorem robB_lt {M : MS} {h : Nat} {p : Nat × Nat} (hb : robB M h = some p) : p.1 < nR M ∧ M 20 p.1 = 0 := by
  obtain ⟨i, a, b⟩ := bst_in hb
  unfold rfF at b
  by_cases hc : M 20 i = 0
  · rw [if_pos hc] at b
    cases hd : dGM M (ix (M 18 i)) h with
    | none => rw [hd] at b; simp at b
    | some n => rw [hd] at b; simp at b; subst b; exact ⟨a, hc⟩
  · rw [if_neg hc] at b; cases b
theorem srvW_none {s f : Nat} {M : MS} {af : Int32} (h : nlGo M (nI s) af 30 = none) : srvW s (f + 1) M af = M := by simp only [srvW, h]
theorem srvW_skip {s f k : Nat} {M : MS} {af : Int32} (h : nlGo M (nI s) af 30 = some k) (hl : M 13 k ≤ 0) : srvW s (f + 1) M af = srvW s f M (M 15 k) := by simp only [srvW, h, if_pos hl]
theorem srvW_no {s f k : Nat} {M : MS} {af : Int32} (h : nlGo M (nI s) af 30 = some k) (hl : ¬ M 13 k ≤ 0) (hs : sndF M s k = none) : srvW s (f + 1) M af = srvW s f M (M 15 k) := by simp only [srvW, h, if_neg hl, hs]
theorem srvW_yes {s f k : Nat} {M M' : MS} {af : Int32} (h : nlGo M (nI s) af 30 = some k) (hl : ¬ M 13 k ≤ 0) (hs : sndF M s k = some M') : srvW s (f + 1) M af = M' := by simp only [srvW, h, if_neg hl, hs]
