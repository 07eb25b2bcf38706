/-! ROBOTS DIE AND ARE REPAIRED, LINES ARE CLAIMED AND GIVEN UP: what holds all along is kept -/
def dieX (M : MS) (r : Nat) : MS := becF (mset M 21 r (if M 20 r = 1 then -1 else M 21 r)) r 5
theorem dw_lk (M : MS) (r : Nat) : dwM M r = dieX M r := by
  funext k i
  have hk : k = 20 ∨ k = 21 ∨ k = 22 ∨ k = 23 ∨ k = 24 ∨ (k ≠ 20 ∧ k ≠ 21 ∧ k ≠ 22 ∧ k ≠ 23 ∧ k ≠ 24) := by omega
  unfold dwM dieX becF bcM
  rw [if_neg (show ¬ ((5 : Int32) = 1 ∨ (5 : Int32) = 2 ∨ (5 : Int32) = 3) by decide), if_neg (show ¬ (5 : Int32) = 0 by decide)]
  by_cases h : M 20 r = 1
  · rw [if_pos h, if_pos h]
    rcases hk with rfl | rfl | rfl | rfl | rfl | ⟨a, b, c, d, e⟩ <;> by_cases z : i = r <;> simp [mset, upd, *]
  · rw [if_neg h, if_neg h]
    rcases hk with rfl | rfl | rfl | rfl | rfl | ⟨a, b, c, d, e⟩ <;> by_cases z : i = r <;> simp [mset, upd, *]
theorem die_lk {M : MS} {r : Nat} (hr : r < 2147483648) (hT : dieT M (nI r) = 0) : ∀ k, k ≠ 0 → dieF M (nI r) k = dieX M r k := fun k h0 => by
  unfold dieF dieX becF
  rw [if_pos hT, ix_nI hr]
  have hk : k = 20 ∨ k = 21 ∨ k = 22 ∨ k = 23 ∨ k = 24 ∨ (k ≠ 20 ∧ k ≠ 21 ∧ k ≠ 22 ∧ k ≠ 23 ∧ k ≠ 24) := by omega
  rcases hk with rfl | rfl | rfl | rfl | rfl | ⟨a, b, c, d, e⟩ <;> simp [mset, thr, *]
theorem rep_lk {M : MS} {r : Nat} (hr : r < 2147483648) (hT : repT M (nI r) = 0) : ∀ k, k ≠ 0 → repF M (nI r) k = becF M r (rpX M r) k := fun k h0 => by
  unfold repF rpX becF
  rw [if_pos hT, ix_nI hr]
  have hk : k = 20 ∨ k = 21 ∨ k = 22 ∨ k = 23 ∨ k = 24 ∨ (k ≠ 20 ∧ k ≠ 21 ∧ k ≠ 22 ∧ k ≠ 23 ∧ k ≠ 24) := by omega
  rcases hk with rfl | rfl | rfl | rfl | rfl | ⟨a, b, c, d, e⟩ <;> simp [mset, thr, *]
theorem okS.t {M : MS} {r : Nat} (h : okS M r) : M 21 r = -1 ∨ ∃ t, t < nT M ∧ M 21 r = nI t := by
  rcases h with h | h | h | h
  · exact Or.inl h.2.1
  · exact Or.inr h.2.1
  · exact Or.inr h.2.1
  · exact h.2.1
theorem INV_die {B : Nat} {M : MS} {r : Nat} (hI : INV B M) (hr : r < nR M) : INV B (dieX M r) := by
  have ho : offR M (dieX M r) r := (((((offR.rf.set rfl).set rfl).set rfl).set rfl).set rfl).set rfl
  have e21 : dieX M r 21 r = (if M 20 r = 1 then -1 else M 21 r) := by
    unfold dieX
    rw [bec_21, if_neg (by decide), mset_s, upd_s]
  have e22 : dieX M r 22 r = -1 := by unfold dieX; rw [bec_22]; rfl
  have ht := (hI.r.1 r hr).2.1.t
  refine INV_upd0 hI hr ho ⟨(hI.r.1 r hr).1, Or.inr (Or.inr (Or.inr ⟨bec_20 .., ?_, e22⟩)), Or.inl (bec_24 ..), Or.inl (bec_23 ..)⟩ (Or.inl rfl) ?_ (Or.inl e22)
  · rw [e21, (eqN ho.1).2.2.1]
    split
    · exact Or.inl rfl
    · exact ht
  · rw [e21]
    split
    · exact Or.inl rfl
    · exact Or.inr rfl
theorem rp_lk {M : MS} {r : Nat} (hs : okS M r) (h5 : M 20 r = 5) : bcM M r (rpX M r) = becF M r (rpX M r) := by
  have h22 : M 22 r = -1 := by
    rcases hs with h | h | h | h
    · exact h.2.2
    · rw [h5] at h; exact absurd h.1 (by decide)
    · exact h.2.2
    · exact h.2.2
  refine (bec_bc ?_ ?_).symm
  · unfold rpX
    split
    · rw [if_neg (by decide), h22]
    · rw [if_neg (by decide), h22]
  · unfold rpX
    by_cases h : M 21 r = -1
    · rw [if_pos h, if_pos rfl, h]
    · rw [if_neg h, if_neg (by decide)]
theorem INV_rep {B : Nat} {M : MS} {r : Nat} (hI : INV B M) (hr : r < nR M) : INV B (becF M r (rpX M r)) := by
  unfold rpX
  split
  · exact INV_bec0 hI hr
  · rename_i h
    exact INV_bec4 hI hr ((hI.r.1 r hr).2.1.t.resolve_left h)
/-- a line is let go that nobody works for -/
theorem INV_un {B : Nat} {M : MS} {K : Nat} (hI : INV B M) (hK : K < 30) (hn : ∀ r, r < nR M → M 22 r ≠ nI K) : INV B (mset M 14 K (-1)) := by
  obtain ⟨c, ⟨r1, r2, r3, r4⟩, ⟨f1, f2, f3, f4, f5, f6, f7, f8⟩, p⟩ := hI
  have e14 : mset M 14 K (-1) 14 = upd (M 14) K (-1) := mset_s M 14 K (-1)
  have hix : ∀ r, r < nR M → M 22 r ≠ -1 → ∃ k, VL M k = true ∧ M 22 r = nI k ∧ k ≠ K := fun r hr h => by
    rcases (r1 r hr).2.1 with a | a | a | a
    · exact absurd a.2.2 h
    · obtain ⟨-, -, k, s, n, hv, hk, -⟩ := a
      exact ⟨k, hv, hk, fun e => hn r hr (by rw [hk, e])⟩
    · exact absurd a.2.2 h
    · exact absurd a.2.2 h
  refine ⟨c.set rfl, ⟨fun r hr => ?_, r2, r3, fun r q hr hq a b e => ?_⟩, ⟨f1, f2, f3, fun k hk => ?_, fun k q hk hq a b e => ?_, f6, f7, f8⟩, p⟩
  · obtain ⟨x1, x2, x3, x4⟩ := r1 r hr
    refine ⟨x1, ?_, x3, x4⟩
    rcases x2 with y | ⟨y1, y2, k, s, n, y4, y5, y6, y7, y8⟩ | y | y
    · exact Or.inl y
    · refine Or.inr (Or.inl ⟨y1, y2, k, s, n, y4, y5, y6, ?_, y8⟩)
      rw [e14, upd_n _ _ (fun z => hn r hr (by rw [← z]; exact y5))]
      exact y7
    · exact Or.inr (Or.inr (Or.inl y))
    · exact Or.inr (Or.inr (Or.inr y))
  · obtain ⟨k1, v1, h1, n1⟩ := hix r hr a
    obtain ⟨k2, v2, h2, n2⟩ := hix q hq b
    have c1 := VL_lt c v1
    have c2 := VL_lt c v2
    have e' : mset M 14 K (-1) 14 (ix (M 22 r)) = mset M 14 K (-1) 14 (ix (M 22 q)) := e
    rw [e14, h1, h2, ix_nI (by omega), ix_nI (by omega), upd_n _ _ n1, upd_n _ _ n2] at e'
    exact r4 r q hr hq a b (by rw [h1, h2, ix_nI (by omega), ix_nI (by omega)]; exact e')
  · obtain ⟨x1, x2, x3⟩ := f4 k hk
    refine ⟨x1, x2, ?_⟩
    rw [e14]
    by_cases z : k = K
    · rw [z, upd_s]; exact Or.inl rfl
    · rw [upd_n _ _ z]; exact x3
  · rw [e14] at a b
    have a' : M 14 k ≠ -1 := fun z => a (by by_cases y : k = K; · rw [y, upd_s]
                                            · rw [upd_n _ _ y]; exact z)
    have b' : M 14 q ≠ -1 := fun z => b (by by_cases y : q = K; · rw [y, upd_s]
                                            · rw [upd_n _ _ y]; exact z)
    exact f5 k q hk hq a' b' e
