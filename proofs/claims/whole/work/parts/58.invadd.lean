/-! WHAT HOLDS ALL ALONG IS KEPT BY THE PUBLIC METHODS -/
def invRow (k : Nat) : Bool := k == 17 || k == 4 || k == 6 || k == 10 || k == 11 || k == 18 || k == 20 || k == 21 || k == 22 || k == 23 || k == 24 || k == 13 || k == 14 || k == 7 || k == 8 || k == 5 || k == 12 || k == 15 || k == 3 || k == 16 || k == 1 || k == 34 || k == 35 || k == 36
theorem INV.cg {B : Nat} {M M' : MS} (h : INV B M) (e : ∀ k, invRow k = true → M' k = M k) : INV B M' := by
  have eR : nR M' = nR M := by unfold nR; rw [e 17 rfl]
  have eS : nS M' = nS M := by unfold nS; rw [e 4 rfl]
  have eT : nT M' = nT M := by unfold nT; rw [e 6 rfl]
  have eO : nO M' = nO M := by unfold nO; rw [e 10 rfl]
  have eL : nL M' = nL M := by funext o; unfold nL; rw [e 11 rfl]
  have eP : nP M' = nP M := by unfold nP; rw [e 34 rfl]
  have eC : nC M' = nC M := by unfold nC; rw [e 16 rfl]
  have et : tN M' = tN M := by unfold tN; rw [e 1 rfl]
  have eV : VL M' = VL M := by funext k; unfold VL; rw [eO, eL]
  have ep : pot M' = pot M := by funext k; unfold pot; rw [eV, e 13 rfl]
  unfold INV CNT INVr INVf INVp okR okS okL at h ⊢
  rw [eR, eS, eT, eO, eL, eP, eC, et, eV, ep, e 17 rfl, e 4 rfl, e 6 rfl, e 10 rfl, e 11 rfl, e 18 rfl, e 20 rfl, e 21 rfl, e 22 rfl, e 23 rfl, e 24 rfl, e 13 rfl, e 14 rfl, e 7 rfl, e 8 rfl, e 5 rfl, e 12 rfl, e 15 rfl, e 3 rfl, e 16 rfl, e 1 rfl, e 34 rfl, e 35 rfl, e 36 rfl]
  exact h
theorem pot_le {M M' : MS} {n : Nat} (hV : VL M n = true → VL M' n = true) (h1 : VL M n = true → M' 13 n = M 13 n) (h2 : VL M' n = true → VL M n = true ∨ ∃ m, m ≤ 50 ∧ M' 13 n = nI m) : pot M' n ≤ pot M n := by
  unfold pot
  by_cases v : VL M n = true
  · rw [if_pos v, if_pos (hV v), h1 v]; exact Nat.le_refl _
  · rw [if_neg v]
    by_cases v' : VL M' n = true
    · rw [if_pos v']
      rcases h2 v' with x | ⟨m, hm, em⟩
      · exact absurd x v
      · rw [em, nI_clamp (by omega)]; exact hm
    · rw [if_neg v']; exact Nat.le_refl _
theorem sum_mono {f g : Nat → Nat} {a b : Nat} (h : ∀ n, f n ≤ g n) (k : Nat) (p : a + fb_sm g k ≤ b) : a + fb_sm f k ≤ b := by
  have := fb_sm_le (n := k) (fun n _ => h n)
  omega
theorem pot_mono {M M' : MS} {a : Nat} (h : ∀ n, pot M' n ≤ pot M n) (p : a + fb_sm (pot M) 30 ≤ 1500) : a + fb_sm (pot M') 30 ≤ 1500 := sum_mono h 30 p
theorem INV.mono {B : Nat} {M M' : MS} (h : INV B M) (hC : CNT M') (eR : nR M ≤ nR M') (eT : nT M ≤ nT M') (eS : nS M ≤ nS M') (eO : nO M ≤ nO M') (hV : ∀ k, VL M k = true → VL M' k = true)
    (hR : ∀ r, r < nR M' → (r < nR M ∧ M' 18 r = M 18 r ∧ M' 20 r = M 20 r ∧ M' 21 r = M 21 r ∧ M' 22 r = M 22 r ∧ M' 23 r = M 23 r ∧ M' 24 r = M 24 r) ∨ (r = nR M ∧ M' 20 r = 0 ∧ M' 21 r = -1 ∧ M' 22 r = -1 ∧ M' 23 r = -1 ∧ M' 24 r = -1 ∧ isC (M' 18 r) ∧ ∀ q, q < nR M → M 18 q ≠ M' 18 r))
    (hT : ∀ t, t < nT M' → (t < nT M ∧ M' 7 t = M 7 t ∧ M' 8 t = M 8 t) ∨ (isC (M' 7 t) ∧ ∃ g, g < 6 ∧ M' 8 t = nI g))
    (hSt : ∀ s, s < nS M' → (s < nS M ∧ M' 5 s = M 5 s) ∨ isC (M' 5 s))
    (hL : ∀ k, VL M' k = true → (VL M k = true ∧ M' 12 k = M 12 k ∧ M' 13 k = M 13 k ∧ M' 14 k = M 14 k ∧ M' 15 k = M 15 k) ∨ ((∃ g, g < 6 ∧ M' 12 k = nI g) ∧ (∃ n, n ≤ 50 ∧ M' 13 k = nI n) ∧ M' 14 k = -1))
    (hLo : ∀ k, VL M k = true → M' 12 k = M 12 k ∧ M' 13 k = M 13 k ∧ M' 14 k = M 14 k ∧ M' 15 k = M 15 k)
    (h3 : M' 3 = M 3) (h16 : M' 16 = M 16) (h1 : M' 1 = M 1) (h34 : M' 34 = M 34) (h35 : M' 35 = M 35) (h36 : M' 36 = M 36)
    (h11 : ∀ o, nO M' ≤ o → o < 10 → nL M' o = 0) : INV B M' := by
  obtain ⟨c, ⟨r1, r2, r3, r4⟩, ⟨f1, f2, f3, f4, f5, f6, f7, f8⟩, p1, p2, p3⟩ := h
  have eP : nP M' = nP M := by unfold nP; rw [h34]
  have eC : nC M' = nC M := by unfold nC; rw [h16]
  have et : tN M' = tN M := by unfold tN; rw [h1]
  have hc30 : ∀ k, VL M k = true → k < 30 := fun k hk => VL_lt c hk
  have hix : ∀ r, r < nR M → M 22 r ≠ -1 → VL M (ix (M 22 r)) = true := fun r hr hn => by
    rcases (r1 r hr).2.1 with a | a | a | a
    · exact absurd a.2.2 hn
    · obtain ⟨-, -, k, s, n, hv, hk, -⟩ := a
      rw [hk, ix_nI (by have := hc30 k hv; omega)]; exact hv
    · exact absurd a.2.2 hn
    · exact absurd a.2.2 hn
  refine ⟨hC, ⟨fun r hr => ?_, fun r q hr hq e => ?_, fun r q hr hq e hn => ?_, fun r q hr hq a b e => ?_⟩, ⟨h11, fun t ht => ?_, fun s hs => ?_, fun k hk => ?_, fun k q hk hq a b e => ?_, ?_, ?_, ?_⟩, by rw [h34, eP]; exact p1, ?_, fun i hi => ?_⟩
  · rcases hR r hr with ⟨a, e18, e20, e21, e22, e23, e24⟩ | ⟨-, e20, e21, e22, e23, e24, hc, -⟩
    · obtain ⟨x1, x2, x3, x4⟩ := r1 r a
      refine ⟨by rw [e18]; exact x1, ?_, by rw [e24, e20]; exact x3, by rw [e23]; exact x4⟩
      unfold okS
      rw [e20, e21, e22]
      rcases x2 with y | ⟨y1, ⟨t, y2, y3⟩, k, s, n, y4, y5, y6, y7, y8, y9, y10⟩ | ⟨y1, ⟨t, y2, y3⟩, y4⟩ | ⟨y1, y2, y3⟩
      · exact Or.inl y
      · obtain ⟨z1, z2, z3, z4⟩ := hLo k y4
        exact Or.inr (Or.inl ⟨y1, ⟨t, by omega, y3⟩, k, s, n, hV k y4, y5, by omega, by rw [z3]; exact y7, y8, y9, by rw [z2]; exact y10⟩)
      · exact Or.inr (Or.inr (Or.inl ⟨y1, ⟨t, by omega, y3⟩, y4⟩))
      · exact Or.inr (Or.inr (Or.inr ⟨y1, y2.elim Or.inl (fun ⟨t, a, b⟩ => Or.inr ⟨t, by omega, b⟩), y3⟩))
    · exact ⟨hc, Or.inl ⟨e20, e21, e22⟩, Or.inl e24, Or.inl e23⟩
  · rcases hR r hr with ⟨a, e18, -⟩ | ⟨a, -, -, -, -, -, -, hn1⟩
    · rcases hR q hq with ⟨b, f18, -⟩ | ⟨b, -, -, -, -, -, -, hn2⟩
      · exact r2 r q a b (by rw [← e18, ← f18]; exact e)
      · exact absurd (e18.symm.trans e) (hn2 r a)
    · rcases hR q hq with ⟨b, f18, -⟩ | ⟨b, -⟩
      · exact absurd (f18.symm.trans e.symm) (hn1 q b)
      · omega
  · rcases hR r hr with ⟨a, -, -, e21, -⟩ | ⟨a, -, e21, -⟩
    · rcases hR q hq with ⟨b, -, -, f21, -⟩ | ⟨b, -, f21, -⟩
      · exact r3 r q a b (by rw [← e21, ← f21]; exact e) (by rw [← e21]; exact hn)
      · rw [e, f21] at hn; exact absurd rfl hn
    · rw [e21] at hn; exact absurd rfl hn
  · rcases hR r hr with ⟨x, -, -, -, e22, -⟩ | ⟨x, -, -, e22, -⟩
    · rcases hR q hq with ⟨y, -, -, -, f22, -⟩ | ⟨y, -, -, f22, -⟩
      · rw [e22] at a e
        rw [f22] at b e
        have v1 := hix r x a
        have v2 := hix q y b
        rw [(hLo _ v1).2.2.1, (hLo _ v2).2.2.1] at e
        exact r4 r q x y a b e
      · rw [f22] at b; exact absurd rfl b
    · rw [e22] at a; exact absurd rfl a
  · rcases hT t ht with ⟨a, e7, e8⟩ | a
    · rw [e7, e8]; exact f2 t a
    · exact a
  · rcases hSt s hs with ⟨a, e5⟩ | a
    · rw [e5]; exact f3 s a
    · exact a
  · rcases hL k hk with ⟨a, e12, e13, e14, e15⟩ | ⟨x1, x2, x3⟩
    · obtain ⟨y1, y2, y3⟩ := f4 k a
      refine ⟨by rw [e12]; exact y1, by rw [e13]; exact y2, ?_⟩
      rw [e14, e15, eC]
      rcases y3 with y | ⟨s, c9, z1, z2⟩
      · exact Or.inl y
      · exact Or.inr ⟨s, c9, by omega, z2⟩
    · exact ⟨x1, x2, Or.inl x3⟩
  · rcases hL k hk with ⟨x, -, -, e14, e15⟩ | ⟨-, -, e14⟩
    · rcases hL q hq with ⟨y, -, -, f14, f15⟩ | ⟨-, -, f14⟩
      · exact f5 k q x y (by rw [← e14]; exact a) (by rw [← f14]; exact b) (by rw [← e15, ← f15]; exact e)
      · exact absurd f14 b
    · exact absurd e14 a
  · rw [h3]; exact f6
  · rw [h16, eC]; exact f7
  · rw [h1, et]; exact f8
  · rw [eP]
    exact pot_mono (fun n => pot_le (hV n) (fun v => (hLo n v).2.1) (fun v => (hL n v).elim (fun x => Or.inl x.1) (fun x => Or.inr x.2.1))) p2
  · rw [eP] at hi
    obtain ⟨⟨t, a, b⟩, o, c9, d⟩ := p3 i hi
    rw [h35, h36]
    exact ⟨⟨t, by omega, b⟩, o, by omega, d⟩
theorem INV.Bm {B B' : Nat} {M : MS} (h : INV B M) (hb : B ≤ B') : INV B' M := by
  obtain ⟨c, r, ⟨f1, f2, f3, f4, f5, f6, f7, f8⟩, p⟩ := h
  exact ⟨c, r, ⟨f1, f2, f3, f4, f5, f6, ⟨f7.1, by omega⟩, f8⟩, p⟩
