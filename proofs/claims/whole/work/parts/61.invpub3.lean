/-! A LINE IS GIVEN UP, A LINE IS CLAIMED -/
theorem lv_lk (M : MS) (r : Nat) : lvM M r = becF M r (if M 20 r = 1 then 0 else 4) := by
  funext k i
  have hk : k = 20 ∨ k = 21 ∨ k = 22 ∨ k = 23 ∨ k = 24 ∨ (k ≠ 20 ∧ k ≠ 21 ∧ k ≠ 22 ∧ k ≠ 23 ∧ k ≠ 24) := by omega
  unfold lvM becF bcM
  by_cases h : M 20 r = 1
  · rw [if_pos h, if_pos h, if_neg (show ¬ ((0 : Int32) = 1 ∨ (0 : Int32) = 2 ∨ (0 : Int32) = 3) by decide), if_pos rfl]
    rcases hk with rfl | rfl | rfl | rfl | rfl | ⟨a, b, c, d, e⟩ <;> by_cases z : i = r <;> simp [mset, upd, *]
  · rw [if_neg h, if_neg h, if_neg (show ¬ ((4 : Int32) = 1 ∨ (4 : Int32) = 2 ∨ (4 : Int32) = 3) by decide), if_neg (show ¬ (4 : Int32) = 0 by decide)]
    rcases hk with rfl | rfl | rfl | rfl | rfl | ⟨a, b, c, d, e⟩ <;> by_cases z : i = r <;> simp [mset, upd, *]
theorem gvGo_u {K N : Nat} {M1 : MS} (hK : nI K ≠ -1) (hu : ∀ a b, a < N → b < N → M1 22 a = M1 22 b → M1 22 a ≠ -1 → a = b) : ∀ n, n ≤ N → gvGo K n M1 = match lastE (M1 22) (nI K) n with | none => M1 | some r => becF M1 r (if M1 20 r = 1 then 0 else 4)
  | 0, _ => rfl
  | n + 1, hn => by
    have ih := gvGo_u hK hu n (by omega)
    cases hl : lastE (M1 22) (nI K) n with
    | none =>
      rw [hl] at ih
      have ih' : gvGo K n M1 = M1 := ih
      by_cases h : M1 22 n = nI K
      · rw [gvGo_t (by rw [ih']; exact h), ih', lastE_step_t h]
      · rw [gvGo_f (by rw [ih']; exact h), ih', lastE_step_f h, hl]
    | some r =>
      rw [hl] at ih
      have ih' : gvGo K n M1 = becF M1 r (if M1 20 r = 1 then 0 else 4) := ih
      obtain ⟨h1, h2⟩ := lastE_lt hl
      have h : ¬ M1 22 n = nI K := fun z => by
        have := hu n r (by omega) (by omega) (by rw [z, h2]) (by rw [z]; exact hK)
        omega
      have h9 : gvGo K n M1 22 n = M1 22 n := by
        rw [ih']
        show upd (M1 22) r _ n = M1 22 n
        exact upd_n _ _ (by omega)
      rw [gvGo_f (by rw [h9]; exact h), ih', lastE_step_f h, hl]
def gvX (M : MS) (K : Nat) : MS := match wlA M K with
  | none => mset M 14 K (-1)
  | some r => mset (becF M r (if M 20 r = 1 then 0 else 4)) 14 K (-1)
theorem gv_lkC (M : MS) (K : Nat) : mset (gvC M K) 14 K (-1) = gvX M K := by
  unfold gvC gvX
  cases wlA M K with
  | none => rfl
  | some r => dsimp only; rw [lv_lk]
theorem gv_lk {M : MS} {o k : Nat} (hu : uq22 M) (ho : o < 10) (hk : k < 3) (hT : gvT M (nI o) (nI k) = 0) : ∀ q, q ≠ 0 → gvF M (nI o) (nI k) q = gvX M (3 * o + k) q := fun q h0 => by
  unfold gvF
  rw [if_pos hT, ix_nI (by omega), ix_nI (by omega), gvGo_u (M1 := mset (thr M 0) 14 (3 * o + k) (-1)) (N := nR M) (nI_m1 (by omega)) (fun a b ha hb => hu a b ha hb) (nR M) (Nat.le_refl _)]
  show (match lastE (M 22) (nI (3 * o + k)) (nR M) with | none => mset (thr M 0) 14 (3 * o + k) (-1) | some r => becF (mset (thr M 0) 14 (3 * o + k) (-1)) r (if M 20 r = 1 then 0 else 4)) q = _
  unfold gvX wlA
  cases lastE (M 22) (nI (3 * o + k)) (nR M) with
  | none =>
    dsimp only
    by_cases a : q = 14
    · subst a; rfl
    · rw [mset_n _ _ _ a, mset_n _ _ _ a]; exact mset_n _ _ _ h0
  | some r =>
    dsimp only
    unfold becF
    have hq : q = 20 ∨ q = 21 ∨ q = 22 ∨ q = 23 ∨ q = 24 ∨ q = 14 ∨ (q ≠ 20 ∧ q ≠ 21 ∧ q ≠ 22 ∧ q ≠ 23 ∧ q ≠ 24 ∧ q ≠ 14) := by omega
    rcases hq with rfl | rfl | rfl | rfl | rfl | rfl | ⟨a, b, c, d, e, f⟩
    · rfl
    · rfl
    · rfl
    · rfl
    · rfl
    · rfl
    · simp only [mset, thr, if_neg a, if_neg b, if_neg c, if_neg d, if_neg e, if_neg f, if_neg h0]
theorem INV_gv {B : Nat} {M : MS} {K : Nat} (hI : INV B M) (hK : K < 30) : INV B (gvX M K) := by
  unfold gvX
  cases hw : wlA M K with
  | none => exact INV_un hI hK (fun r hr => lastE_none.mp (show lastE (M 22) (nI K) (nR M) = none from hw) r hr)
  | some r =>
    obtain ⟨hr, h22⟩ := lastE_lt (show lastE (M 22) (nI K) (nR M) = some r from hw)
    have hm1 : ¬ nI K = -1 := nI_m1 (by omega)
    have hn : ∀ st, (st = 0 ∨ st = 4) → ∀ q, q < nR (becF M r st) → becF M r st 22 q ≠ nI K := fun st hst q hq => by
      have e22 : becF M r st 22 = upd (M 22) r (if st = 1 ∨ st = 2 ∨ st = 3 then M 22 r else -1) := rfl
      rw [e22]
      by_cases z : q = r
      · rw [z, upd_s]
        rcases hst with rfl | rfl
        · rw [if_neg (by decide)]; exact fun y => hm1 y.symm
        · rw [if_neg (by decide)]; exact fun y => hm1 y.symm
      · rw [upd_n _ _ z]
        intro y
        exact z (hI.u22 q r hq hr (by rw [y, h22]) (by rw [y]; exact hm1))
    have ht : ∃ t, t < nT M ∧ M 21 r = nI t := by
      rcases (hI.r.1 r hr).2.1 with a | a | a | a
      · rw [h22] at a; exact absurd a.2.2 hm1
      · exact a.2.1
      · exact a.2.1
      · rw [h22] at a; exact absurd a.2.2 hm1
    show INV B (mset (becF M r (if M 20 r = 1 then 0 else 4)) 14 K (-1))
    by_cases h1 : M 20 r = 1
    · rw [if_pos h1]
      exact INV_un (INV_bec0 hI hr) hK (hn 0 (Or.inl rfl))
    · rw [if_neg h1]
      exact INV_un (INV_bec4 hI hr ht) hK (hn 4 (Or.inr rfl))
def clX (M : MS) (s K : Nat) : MS := mset (mset (mset M 16 0 (M 16 0 + 1)) 14 K (nI s)) 15 K (M 16 0 + 1)
theorem clm_lk {M : MS} {s o k : Nat} (hs : s < 3) (ho : o < 10) (hk : k < 3) (hT : clmT M (nI s) (nI o) (nI k) = 0) : ∀ q, q ≠ 0 → clmF M (nI s) (nI o) (nI k) q = clX M s (3 * o + k) q := fun q h0 => by
  unfold clmF clX
  rw [if_pos hT, ix_nI (by omega), ix_nI (by omega)]
  simp only [mset, thr, if_neg h0]
theorem INV_clm {B : Nat} {M : MS} {s K : Nat} (hI : INV B M) (hB : B + 1 < 2147483648) (hs : s < nS M) (hv : VL M K = true) (h14 : M 14 K = -1) : INV (B + 1) (clX M s K) := by
  have hK := VL_lt hI.c hv
  have h3 := hI.c.S3
  obtain ⟨c, ⟨r1, r2, r3, r4⟩, ⟨f1, f2, f3, f4, f5, f6, f7, f8⟩, p⟩ := hI
  have e14 : clX M s K 14 = upd (M 14) K (nI s) := rfl
  have e15 : clX M s K 15 = upd (M 15) K (M 16 0 + 1) := rfl
  have e16 : clX M s K 16 0 = nI (nC M + 1) := by show upd (M 16) 0 (M 16 0 + 1) 0 = _; rw [upd_s, f7.1, nI_1]
  have eC : nC (clX M s K) = nC M + 1 := by unfold nC; rw [e16]; exact nI_clamp (by omega)
  have hnew : M 16 0 + 1 = nI (nC M + 1) := by rw [f7.1, nI_1]
  have hix : ∀ r, r < nR M → M 22 r ≠ -1 → ∃ k, VL M k = true ∧ M 22 r = nI k ∧ k ≠ K := fun r hr h => by
    rcases (r1 r hr).2.1 with a | a | a | a
    · exact absurd a.2.2 h
    · obtain ⟨-, -, k, s', n, hv', hk, hs', h9, -⟩ := a
      exact ⟨k, hv', hk, fun e => by rw [e, h14] at h9; exact nI_m1 (by omega) h9.symm⟩
    · exact absurd a.2.2 h
    · exact absurd a.2.2 h
  refine ⟨((c.set rfl).set rfl).set rfl, ⟨fun r hr => ?_, r2, r3, fun r q hr hq a b e => ?_⟩, ⟨f1, f2, f3, fun k hk => ?_, fun k q hk hq a b e => ?_, f6, ⟨by rw [eC]; exact e16, by rw [eC]; omega⟩, f8⟩, p⟩
  · obtain ⟨x1, x2, x3, x4⟩ := r1 r hr
    refine ⟨x1, ?_, x3, x4⟩
    rcases x2 with y | ⟨y1, y2, k, s', n, y4, y5, y6, y7, y8⟩ | y | y
    · exact Or.inl y
    · refine Or.inr (Or.inl ⟨y1, y2, k, s', n, y4, y5, y6, ?_, y8⟩)
      rw [e14, upd_n _ _ (fun z => by rw [z, h14] at y7; exact nI_m1 (by omega) y7.symm)]
      exact y7
    · exact Or.inr (Or.inr (Or.inl y))
    · exact Or.inr (Or.inr (Or.inr y))
  · obtain ⟨k1, v1, h1, n1⟩ := hix r hr a
    obtain ⟨k2, v2, h2, n2⟩ := hix q hq b
    have c1 := VL_lt c v1
    have c2 := VL_lt c v2
    have e' : clX M s K 14 (ix (M 22 r)) = clX M s K 14 (ix (M 22 q)) := e
    rw [e14, h1, h2, ix_nI (by omega), ix_nI (by omega), upd_n _ _ n1, upd_n _ _ n2] at e'
    exact r4 r q hr hq a b (by rw [h1, h2, ix_nI (by omega), ix_nI (by omega)]; exact e')
  · obtain ⟨x1, x2, x3⟩ := f4 k hk
    refine ⟨x1, x2, ?_⟩
    rw [e14, e15, eC, hnew]
    by_cases z : k = K
    · rw [z, upd_s, upd_s]; exact Or.inr ⟨s, nC M + 1, hs, rfl, by omega, Nat.le_refl _, rfl⟩
    · rw [upd_n _ _ z, upd_n _ _ z]
      rcases x3 with y | ⟨s', c9, y1, y2, y3, y4, y5⟩
      · exact Or.inl y
      · exact Or.inr ⟨s', c9, y1, y2, y3, by omega, y5⟩
  · rw [e14] at a b
    rw [e15, hnew] at e
    have old : ∀ k, VL M k = true → k ≠ K → upd (M 14) K (nI s) k ≠ -1 → M 15 k ≠ nI (nC M + 1) := fun k hk z a9 y => by
      rw [upd_n _ _ z] at a9
      rcases (f4 k hk).2.2 with w | ⟨s', c9, y1, y2, y3, y4, y5⟩
      · exact a9 w
      · rw [y5] at y
        have := (nI_eq (by omega) (by omega)).mp y
        omega
    by_cases z1 : k = K
    · by_cases z2 : q = K
      · rw [z1, z2]
      · rw [z1, upd_s, upd_n _ _ z2] at e
        exact absurd e.symm (old q hq z2 b)
    · by_cases z2 : q = K
      · rw [z2, upd_s, upd_n _ _ z1] at e
        exact absurd e (old k hk z1 a)
      · rw [upd_n _ _ z1, upd_n _ _ z2] at e
        rw [upd_n _ _ z1] at a
        rw [upd_n _ _ z2] at b
        exact f5 k q hk hq a b e
