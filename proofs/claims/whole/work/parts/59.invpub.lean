/-! WHAT HOLDS ALL ALONG, after each public method of the reference -/
theorem INV.set {B : Nat} {M : MS} {k j : Nat} {v : Int32} (h : INV B M) (hk : invRow k = false) : INV B (mset M k j v) := h.cg (fun r hr => mset_n M j v (fun q => by rw [q, hk] at hr; cases hr))
theorem inv_ne {k r : Nat} (hk : invRow k = true) (hr : invRow r = false) : k ≠ r := fun q => by rw [q, hr] at hk; cases hk
theorem gh_ne {k r : Nat} (hk : gh k = false) (hr : gh r = true) : k ≠ r := fun q => by rw [q, hr] at hk; cases hk
theorem INV_wall {B : Nat} {M : MS} {x : Int32} (h : INV B M) : INV B (wallF M x) := by
  unfold wallF thr
  split
  · exact (h.set rfl).set rfl
  · exact h.set rfl
theorem INV_fill {B : Nat} {M : MS} {t a : Int32} (h : INV B M) : INV B (fillF M t a) := by
  unfold fillF thr
  split
  · exact ((h.set rfl).set rfl).set rfl
  · exact h.set rfl
theorem INV_row3 {B : Nat} {M : MS} {j : Nat} {b : Bool} (h : INV B M) : INV B (mset M 3 j (bI b)) := by
  obtain ⟨c, r, ⟨f1, f2, f3, f4, f5, f6, f7, f8⟩, p⟩ := h
  have h2 : INV B M := ⟨c, r, ⟨f1, f2, f3, f4, f5, f6, f7, f8⟩, p⟩
  have hz : ∀ q, q < 64 → mset M 3 j (bI b) 3 q = bI (decide (¬ mset M 3 j (bI b) 3 q = 0)) := fun q hq => by
    rw [mset_s]
    by_cases e : q = j
    · rw [e, upd_s]; cases b <;> decide
    · rw [upd_n _ _ e]; exact f6 q hq
  exact ⟨c, r, ⟨f1, f2, f3, f4, f5, hz, f7, f8⟩, p⟩
theorem INV_close {B : Nat} {M : MS} {x : Int32} {b : Bool} (h : INV B M) : INV B (closeF M x b) := by
  unfold closeF thr
  split
  · exact INV_row3 (h.set rfl)
  · exact h.set rfl
theorem tray_lk {M : MS} {h g a : Int32} (hT : trayT M h g a = 0) : ∀ k, k ≠ 0 → k ≠ 32 → trayF M h g a k = trD M h g a k := fun k h0 h32 => by
  unfold trayF trD
  rw [if_pos hT]
  simp only [mset, thr, if_neg h0, if_neg h32]
theorem stn_lk {M : MS} {x : Int32} (hT : stnT M x = 0) : ∀ k, k ≠ 0 → stnF M x k = stD M x k := fun k h0 => by
  unfold stnF stD
  rw [if_pos hT]
  simp only [mset, thr, if_neg h0]
theorem ord_lk {M : MS} (hT : ordT M = 0) : ∀ k, k ≠ 0 → ordF M k = orD M k := fun k h0 => by
  unfold ordF orD
  rw [if_pos hT]
  simp only [mset, thr, if_neg h0]
theorem line_lk {M : MS} {o : Nat} {g a : Int32} (ho : o < 2147483648) (hT : lineT M (nI o) g a = 0) : ∀ k, k ≠ 0 → lineF M (nI o) g a k = liD M o g a k := fun k h0 => by
  unfold lineF liD
  rw [if_pos hT, ix_nI ho]
  simp only [mset, thr, if_neg h0]
theorem nI_isC {j : Nat} (h : j < 64) : isC (nI j) := ⟨j, h, rfl⟩
theorem INV_tray {B : Nat} {M : MS} {h g : Nat} {a : Int32} (hI : INV B M) (hT : nT M < 16) (hh : h < 64) (hg : g < 6) : INV B (trD M (nI h) (nI g) a) := by
  have hc := hI.c
  have n1 : nT (trD M (nI h) (nI g) a) = nT M + 1 := tr_n (by omega)
  have r7 : trD M (nI h) (nI g) a 7 = upd (M 7) (nT M) (nI h) := rfl
  have r8 : trD M (nI h) (nI g) a 8 = upd (M 8) (nT M) (nI g) := rfl
  refine hI.mono ⟨(show M 17 0 = nI (nR M) ∧ nR M ≤ 6 from hc.1), (show M 4 0 = nI (nS M) ∧ nS M ≤ 3 from hc.2.1), ⟨by rw [n1]; exact upd_s (M 6) 0 _, by omega⟩, (show M 10 0 = nI (nO M) ∧ nO M ≤ 10 from hc.2.2.2.1), hc.2.2.2.2⟩ (Nat.le_refl _) (by omega) (Nat.le_refl _) (Nat.le_refl _) (fun k hk => hk) (fun r hr => Or.inl ⟨show r < nR M from hr, rfl, rfl, rfl, rfl, rfl, rfl⟩) (fun t ht => ?_) (fun s hs => Or.inl ⟨show s < nS M from hs, rfl⟩) (fun k hk => Or.inl ⟨show VL M k = true from hk, rfl, rfl, rfl, rfl⟩) (fun k hk => ⟨rfl, rfl, rfl, rfl⟩) rfl rfl rfl rfl rfl rfl hI.f.1
  by_cases e : t = nT M
  · exact Or.inr ⟨by rw [r7, e, upd_s]; exact nI_isC hh, g, hg, by rw [r8, e, upd_s]⟩
  · exact Or.inl ⟨by omega, by rw [r7, upd_n _ _ e], by rw [r8, upd_n _ _ e]⟩
theorem INV_stn {B : Nat} {M : MS} {j : Nat} (hI : INV B M) (hS : nS M < 3) (hj : j < 64) : INV B (stD M (nI j)) := by
  have hc := hI.c
  have n1 : nS (stD M (nI j)) = nS M + 1 := st_n (by omega)
  have r5 : stD M (nI j) 5 = upd (M 5) (nS M) (nI j) := rfl
  refine hI.mono ⟨(show M 17 0 = nI (nR M) ∧ nR M ≤ 6 from hc.1), ⟨by rw [n1]; exact upd_s (M 4) 0 _, by omega⟩, (show M 6 0 = nI (nT M) ∧ nT M ≤ 16 from hc.2.2.1), (show M 10 0 = nI (nO M) ∧ nO M ≤ 10 from hc.2.2.2.1), hc.2.2.2.2⟩ (Nat.le_refl _) (Nat.le_refl _) (by omega) (Nat.le_refl _) (fun k hk => hk) (fun r hr => Or.inl ⟨show r < nR M from hr, rfl, rfl, rfl, rfl, rfl, rfl⟩) (fun t ht => Or.inl ⟨show t < nT M from ht, rfl, rfl⟩) (fun s hs => ?_) (fun k hk => Or.inl ⟨show VL M k = true from hk, rfl, rfl, rfl, rfl⟩) (fun k hk => ⟨rfl, rfl, rfl, rfl⟩) rfl rfl rfl rfl rfl rfl hI.f.1
  by_cases e : s = nS M
  · exact Or.inr (by rw [r5, e, upd_s]; exact nI_isC hj)
  · exact Or.inl ⟨by omega, by rw [r5, upd_n _ _ e]⟩
theorem or_VL {M : MS} (hO : nO M < 10) (h11 : ∀ o, nO M ≤ o → o < 10 → nL M o = 0) (k : Nat) : VL (orD M) k = true ↔ VL M k = true := by
  have h0 := h11 (nO M) (Nat.le_refl _) hO
  have n1 : nO (orD M) = nO M + 1 := or_n (by omega)
  unfold VL
  rw [show ∀ o, nL (orD M) o = nL M o from fun _ => rfl, n1, Bool.and_eq_true, Bool.and_eq_true, decide_eq_true_eq, decide_eq_true_eq, decide_eq_true_eq]
  constructor
  · rintro ⟨a, b⟩
    refine ⟨?_, b⟩
    by_cases z : k / 3 = nO M
    · rw [z, h0] at b; omega
    · omega
  · rintro ⟨a, b⟩; exact ⟨by omega, b⟩
theorem INV_ord {B : Nat} {M : MS} (hI : INV B M) (hO : nO M < 10) : INV B (orD M) := by
  have hc := hI.c
  have n1 : nO (orD M) = nO M + 1 := or_n (by omega)
  have hV := or_VL hO hI.f.1
  exact hI.mono ⟨(show M 17 0 = nI (nR M) ∧ nR M ≤ 6 from hc.1), (show M 4 0 = nI (nS M) ∧ nS M ≤ 3 from hc.2.1), (show M 6 0 = nI (nT M) ∧ nT M ≤ 16 from hc.2.2.1), ⟨by rw [n1]; exact upd_s (M 10) 0 _, by omega⟩, hc.2.2.2.2⟩ (Nat.le_refl _) (Nat.le_refl _) (Nat.le_refl _) (by omega) (fun k hk => (hV k).mpr hk) (fun r hr => Or.inl ⟨show r < nR M from hr, rfl, rfl, rfl, rfl, rfl, rfl⟩) (fun t ht => Or.inl ⟨show t < nT M from ht, rfl, rfl⟩) (fun s hs => Or.inl ⟨show s < nS M from hs, rfl⟩) (fun k hk => Or.inl ⟨(hV k).mp hk, rfl, rfl, rfl, rfl⟩) (fun k hk => ⟨rfl, rfl, rfl, rfl⟩) rfl rfl rfl rfl rfl rfl (fun o h1 h2 => hI.f.1 o (by omega) h2)
theorem li_nn {M : MS} {o o9 : Nat} {g a : Int32} (h : o9 ≠ o) : nL (liD M o g a) o9 = nL M o9 := by show (upd (M 11) o (nI (nL M o + 1)) o9).toNatClampNeg = _; rw [upd_n _ _ h]; rfl
theorem li_VL {M : MS} {o : Nat} {g a : Int32} (ho : o < nO M) (hL : nL M o < 3) (k : Nat) : VL (liD M o g a) k = true ↔ VL M k = true ∨ k = 3 * o + nL M o := by
  unfold VL
  rw [show nO (liD M o g a) = nO M from rfl, Bool.and_eq_true, Bool.and_eq_true, decide_eq_true_eq, decide_eq_true_eq, decide_eq_true_eq]
  by_cases z : k / 3 = o
  · rw [z, li_n (by omega)]; omega
  · rw [li_nn z]; omega
theorem INV_line {B : Nat} {M : MS} {o g a : Nat} (hI : INV B M) (ho : o < nO M) (hL : nL M o < 3) (hg : g < 6) (ha : a ≤ 50) : INV B (liD M o (nI g) (nI a)) := by
  have hc := hI.c
  have h10 := hc.O10
  have hV := li_VL (g := nI g) (a := nI a) ho hL
  have r12 : liD M o (nI g) (nI a) 12 = upd (M 12) (3 * o + nL M o) (nI g) := rfl
  have r13 : liD M o (nI g) (nI a) 13 = upd (M 13) (3 * o + nL M o) (nI a) := rfl
  have r14 : liD M o (nI g) (nI a) 14 = upd (M 14) (3 * o + nL M o) (-1) := rfl
  have r11 : liD M o (nI g) (nI a) 11 = upd (M 11) o (nI (nL M o + 1)) := rfl
  have hold : ∀ k, VL M k = true → k ≠ 3 * o + nL M o := fun k hk e => by
    unfold VL at hk
    rw [Bool.and_eq_true, decide_eq_true_eq, decide_eq_true_eq, e, show (3 * o + nL M o) / 3 = o by omega] at hk
    omega
  refine hI.mono ⟨(show M 17 0 = nI (nR M) ∧ nR M ≤ 6 from hc.1), (show M 4 0 = nI (nS M) ∧ nS M ≤ 3 from hc.2.1), (show M 6 0 = nI (nT M) ∧ nT M ≤ 16 from hc.2.2.1), (show M 10 0 = nI (nO M) ∧ nO M ≤ 10 from hc.2.2.2.1), fun o9 h9 => ?_⟩ (Nat.le_refl _) (Nat.le_refl _) (Nat.le_refl _) (Nat.le_refl _) (fun k hk => (hV k).mpr (Or.inl hk)) (fun r hr => Or.inl ⟨show r < nR M from hr, rfl, rfl, rfl, rfl, rfl, rfl⟩) (fun t ht => Or.inl ⟨show t < nT M from ht, rfl, rfl⟩) (fun s hs => Or.inl ⟨show s < nS M from hs, rfl⟩) (fun k hk => ?_) (fun k hk => ⟨by rw [r12, upd_n _ _ (hold k hk)], by rw [r13, upd_n _ _ (hold k hk)], by rw [r14, upd_n _ _ (hold k hk)], rfl⟩) rfl rfl rfl rfl rfl rfl (fun o9 h1 h2 => ?_)
  · by_cases z : o9 = o
    · rw [z, li_n (by omega), r11, upd_s]; exact ⟨rfl, by omega⟩
    · rw [li_nn z, r11, upd_n _ _ z]; exact hc.2.2.2.2 o9 h9
  · by_cases z : k = 3 * o + nL M o
    · exact Or.inr ⟨⟨g, hg, by rw [r12, z, upd_s]⟩, ⟨a, ha, by rw [r13, z, upd_s]⟩, by rw [r14, z, upd_s]⟩
    · exact Or.inl ⟨((hV k).mp hk).resolve_right z, by rw [r12, upd_n _ _ z], by rw [r13, upd_n _ _ z], by rw [r14, upd_n _ _ z], rfl⟩
  · have h1' : nO M ≤ o9 := h1
    rw [li_nn (show o9 ≠ o by omega)]
    exact hI.f.1 o9 h1' h2
theorem rob_lk {M : MS} {c w : Int32} (hT : robT M c w = 0) : ∀ k, k ≠ 0 → robF M c w k = rbD M c w k := fun k h0 => by
  unfold robF rbD becF
  rw [if_pos hT, if_neg (show ¬ ((0 : Int32) = 1 ∨ (0 : Int32) = 2 ∨ (0 : Int32) = 3) by decide), if_pos rfl]
  by_cases a : k = 17
  · subst a; rfl
  · simp only [mset, thr, if_neg h0, if_neg a]
    by_cases a : k = 18
    · subst a; rfl
    · by_cases a : k = 19
      · subst a; rfl
      · by_cases a : k = 20
        · subst a; rfl
        · by_cases a : k = 21
          · subst a; rfl
          · by_cases a : k = 22
            · subst a; rfl
            · by_cases a : k = 23
              · subst a; rfl
              · by_cases a : k = 24
                · subst a; rfl
                · simp [*]
theorem INV_rob {B : Nat} {M : MS} {j : Nat} {w : Int32} (hI : INV B M) (hR : nR M < 6) (hj : j < 64) (hno : rbA M (nI j) = none) : INV B (rbD M (nI j) w) := by
  have hc := hI.c
  have n1 : nR (rbD M (nI j) w) = nR M + 1 := rb_n (by omega)
  refine hI.mono ⟨⟨by rw [n1]; exact upd_s (M 17) 0 _, by omega⟩, (show M 4 0 = nI (nS M) ∧ nS M ≤ 3 from hc.2.1), (show M 6 0 = nI (nT M) ∧ nT M ≤ 16 from hc.2.2.1), (show M 10 0 = nI (nO M) ∧ nO M ≤ 10 from hc.2.2.2.1), hc.2.2.2.2⟩ (by omega) (Nat.le_refl _) (Nat.le_refl _) (Nat.le_refl _) (fun k hk => hk) (fun r hr => ?_) (fun t ht => Or.inl ⟨show t < nT M from ht, rfl, rfl⟩) (fun s hs => Or.inl ⟨show s < nS M from hs, rfl⟩) (fun k hk => Or.inl ⟨show VL M k = true from hk, rfl, rfl, rfl, rfl⟩) (fun k hk => ⟨rfl, rfl, rfl, rfl⟩) rfl rfl rfl rfl rfl rfl hI.f.1
  have r18 : rbD M (nI j) w 18 = upd (M 18) (nR M) (nI j) := rfl
  have r20 : rbD M (nI j) w 20 = upd (M 20) (nR M) 0 := rfl
  have r21 : rbD M (nI j) w 21 = upd (M 21) (nR M) (-1) := rfl
  have r22 : rbD M (nI j) w 22 = upd (M 22) (nR M) (-1) := rfl
  have r23 : rbD M (nI j) w 23 = upd (M 23) (nR M) (-1) := rfl
  have r24 : rbD M (nI j) w 24 = upd (M 24) (nR M) (-1) := rfl
  by_cases e : r = nR M
  · refine Or.inr ⟨e, by rw [r20, e, upd_s], by rw [r21, e, upd_s], by rw [r22, e, upd_s], by rw [r23, e, upd_s], by rw [r24, e, upd_s], by rw [r18, e, upd_s]; exact nI_isC hj, fun q hq => ?_⟩
    rw [r18, e, upd_s]
    exact lastE_none.mp hno q hq
  · exact Or.inl ⟨by omega, by rw [r18, upd_n _ _ e], by rw [r20, upd_n _ _ e], by rw [r21, upd_n _ _ e], by rw [r22, upd_n _ _ e], by rw [r23, upd_n _ _ e], by rw [r24, upd_n _ _ e]⟩
