/-! RINGS, SENDING, PICKING: what holds all along is kept -/
/-- rows that a tick leaves as they are, when its time is told -/
def stR (k : Nat) : Bool := k == 17 || k == 4 || k == 6 || k == 10 || k == 11 || k == 0 || k == 1 || k == 2 || k == 3 || k == 5 || k == 7 || k == 8 || k == 12 || k == 14 || k == 15 || k == 16 || k == 19 || k == 32
def kpt (M M' : MS) : Prop := ∀ k, stR k = true → M' k = M k
theorem stR_rob {k : Nat} (hj : stR k = true) : rob k = false ∧ cnr k = false := by
  constructor
  · cases h : rob k with
    | false => rfl
    | true =>
      simp only [rob, Bool.or_eq_true, beq_iff_eq] at h
      rcases h with (((((rfl | rfl) | rfl) | rfl) | rfl) | rfl) | rfl <;> cases hj
  · cases h : cnr k with
    | false => rfl
    | true =>
      simp only [cnr, Bool.or_eq_true, beq_iff_eq] at h
      rcases h with ((rfl | rfl) | rfl) | rfl <;> cases hj
theorem stR_cnt {k : Nat} (h : cntRow k = true) : stR k = true := by
  simp only [cntRow, Bool.or_eq_true, beq_iff_eq] at h
  rcases h with (((rfl | rfl) | rfl) | rfl) | rfl <;> rfl
theorem kpt.rf {M : MS} : kpt M M := fun _ _ => rfl
theorem kpt.tr {M M1 M2 : MS} (h : kpt M M1) (h2 : kpt M1 M2) : kpt M M2 := fun k hk => (h2 k hk).trans (h k hk)
theorem kpt.set {M M' : MS} {k i : Nat} {v : Int32} (h : kpt M M') (hk : stR k = false) : kpt M (mset M' k i v) := fun j hj => (mset_n M' i v (fun q => by rw [q, hk] at hj; cases hj)).trans (h j hj)
theorem offR.kpt {M M' : MS} {r : Nat} (h : offR M M' r) : kpt M M' := fun k hk => h.1 k (stR_rob hk).1 (stR_rob hk).2
theorem kpt.eR {M M' : MS} (h : kpt M M') : nR M' = nR M := by unfold nR; rw [h 17 rfl]
theorem kpt.eS {M M' : MS} (h : kpt M M') : nS M' = nS M := by unfold nS; rw [h 4 rfl]
theorem kpt.cnt {M M' : MS} (h : kpt M M') (hc : CNT M) : CNT M' := hc.congr (fun k hk => h k (stR_cnt hk))
theorem rgI_s (M : MS) (r i : Nat) : rgI M r (i + 1) = (nxtA M (rgI M r i)).getD r := rfl
theorem ring_go (M : MS) (r : Nat) : ∀ (f i : Nat) (a : Option Nat), a = nxtA M (rgI M r i) → i ≤ 5 → 0 < rgS M r f (i + 1) a →
    i + 1 ≤ rgS M r f (i + 1) a ∧ rgS M r f (i + 1) a ≤ 6 ∧ (∀ j, i ≤ j → j < rgS M r f (i + 1) a → nxtA M (rgI M r j) = some (rgI M r (j + 1))) ∧ rgI M r (rgS M r f (i + 1) a) = r ∧ ∀ j, i < j → j < rgS M r f (i + 1) a → r < rgI M r j
  | 0, i, a, ha, hi, h => by
    unfold rgS at h ⊢
    split at h
    · rename_i e
      rw [if_pos e]
      have e2 : rgI M r (i + 1) = r := by rw [rgI_s, ← ha, e]; rfl
      refine ⟨Nat.le_refl _, by omega, fun j h1 h2 => ?_, e2, fun j h1 h2 => by omega⟩
      have : j = i := by omega
      subst this
      rw [e2, ← ha]; exact e
    · omega
  | f + 1, i, none, ha, hi, h => absurd h (by show ¬ 0 < 0; omega)
  | f + 1, i, some x, ha, hi, h => by
    have ex : rgI M r (i + 1) = x := by rw [rgI_s, ← ha]; rfl
    unfold rgS at h ⊢
    dsimp only at h ⊢
    split at h
    · rename_i c
      rw [if_pos c]
      obtain ⟨a1, a2, a3, a4, a5⟩ := ring_go M r f (i + 1) (nxtA M x) (by rw [ex]) (by omega) h
      refine ⟨by omega, a2, fun j h1 h2 => ?_, a4, fun j h1 h2 => ?_⟩
      · by_cases e : j = i
        · subst e; rw [← ha, ex]
        · exact a3 j (by omega) h2
      · by_cases e : j = i + 1
        · subst e; rw [ex]; exact c.1
        · exact a5 j (by omega) h2
    · rename_i c
      rw [if_neg c]
      split at h
      · rename_i e
        rw [if_pos e]
        refine ⟨Nat.le_refl _, by omega, fun j h1 h2 => ?_, ex.trans e, fun j h1 h2 => by omega⟩
        have : j = i := by omega
        subst this
        rw [← ha, ex]
      · omega
theorem ring_spec {M : MS} {r : Nat} (h : 0 < rgN M r) : 1 ≤ rgN M r ∧ rgN M r ≤ 6 ∧ (∀ j, j < rgN M r → nxtA M (rgI M r j) = some (rgI M r (j + 1))) ∧ rgI M r (rgN M r) = r ∧ ∀ j, 0 < j → j < rgN M r → r < rgI M r j := by
  obtain ⟨a1, a2, a3, a4, a5⟩ := ring_go M r 6 0 (nxtA M r) rfl (by omega) h
  exact ⟨a1, a2, fun j hj => a3 j (Nat.zero_le _) hj, a4, a5⟩
theorem ring_inj {M : MS} {r i j : Nat} (hi : i < j) (hj : j < rgN M r) : rgI M r i ≠ rgI M r j := by
  intro e
  obtain ⟨a1, a2, a3, a4, a5⟩ := ring_spec (M := M) (r := r) (by omega)
  have h : ∀ t, rgI M r (i + t) = rgI M r (j + t) := by
    intro t
    induction t with
    | zero => exact e
    | succ t ih => rw [← Nat.add_assoc, ← Nat.add_assoc, rgI_s, rgI_s, ih]
  have h1 := h (rgN M r - j)
  rw [show j + (rgN M r - j) = rgN M r by omega, a4] at h1
  have h2 := a5 (i + (rgN M r - j)) (by omega) (by omega)
  omega
theorem ring_lt {M : MS} {r : Nat} (hr : r < nR M) (h : 0 < rgN M r) : ∀ j, j ≤ rgN M r → rgI M r j < nR M
  | 0, _ => hr
  | j + 1, hj => (nxtA_lt ((ring_spec h).2.2.1 j (by omega))).1
theorem rgM_t {M : MS} {r k : Nat} : rgM M r k = true ↔ ∃ i, i < rgN M r ∧ rgI M r i = k := by
  unfold rgM
  rw [anyB_t]
  simp
/-- a ring that has turned: its rows -/
theorem trn_row {M : MS} {mem : Nat → Bool} {j : Nat} (hj : ¬ j = 18) (hj2 : ¬ j = 24) (hj3 : ¬ j = 23) (hj4 : ¬ j = 28) : ∀ n, trnGo M mem n j = M j
  | 0 => rfl
  | n + 1 => by
    unfold trnGo
    split
    · unfold mvF
      rw [mset_n _ _ _ hj4, mset_n _ _ _ hj3, mset_n _ _ _ hj2, mset_n _ _ _ hj]
      exact trn_row hj hj2 hj3 hj4 n
    · exact trn_row hj hj2 hj3 hj4 n
theorem trn_rob {M : MS} {mem : Nat → Bool} (i : Nat) : ∀ n, trnGo M mem n 18 i = (if i < n ∧ mem i = true then M 24 i else M 18 i) ∧ trnGo M mem n 24 i = (if i < n ∧ mem i = true then -1 else M 24 i) ∧ trnGo M mem n 23 i = (if i < n ∧ mem i = true then -1 else M 23 i)
  | 0 => by simp [trnGo]
  | n + 1 => by
    have ih := trn_rob (M := M) (mem := mem) i n
    unfold trnGo
    by_cases hm : mem n = true
    · rw [if_pos hm]
      by_cases e : i = n
      · subst e
        have c : i < i + 1 ∧ mem i = true := ⟨by omega, hm⟩
        rw [if_pos c, if_pos c, if_pos c]
        refine ⟨?_, ?_, ?_⟩
        · show upd (trnGo M mem i 18) i (M 24 i) i = _; rw [upd_s]
        · show upd (trnGo M mem i 24) i (-1) i = _; rw [upd_s]
        · show upd (trnGo M mem i 23) i (-1) i = _; rw [upd_s]
      · have c : (i < n + 1 ∧ mem i = true) ↔ (i < n ∧ mem i = true) := by constructor <;> (rintro ⟨a, b⟩; exact ⟨by omega, b⟩)
        simp only [c]
        refine ⟨?_, ?_, ?_⟩
        · show upd (trnGo M mem n 18) n (M 24 n) i = _; rw [upd_n _ _ e]; exact ih.1
        · show upd (trnGo M mem n 24) n (-1) i = _; rw [upd_n _ _ e]; exact ih.2.1
        · show upd (trnGo M mem n 23) n (-1) i = _; rw [upd_n _ _ e]; exact ih.2.2
    · rw [if_neg hm]
      have c : (i < n + 1 ∧ mem i = true) ↔ (i < n ∧ mem i = true) := by
        constructor
        · rintro ⟨a, b⟩
          refine ⟨?_, b⟩
          rcases Nat.lt_or_ge i n with q | q
          · exact q
          · exact absurd (show mem n = true by rw [show n = i by omega]; exact b) hm
        · rintro ⟨a, b⟩; exact ⟨by omega, b⟩
      simp only [c]
      exact ih
theorem trnF_row {M : MS} {r j : Nat} (hj : ¬ j = 18) (hj2 : ¬ j = 24) (hj3 : ¬ j = 23) (hj4 : cnr j = false) : trnF M r j = M j := by
  unfold trnF
  rw [mset_n _ _ _ (fun q => by rw [q] at hj4; cases hj4)]
  exact trn_row hj hj2 hj3 (fun q => by rw [q] at hj4; cases hj4) _
theorem trnF_rob {M : MS} {r i : Nat} (hi : i < nR M) : trnF M r 18 i = (if rgM M r i = true then M 24 i else M 18 i) ∧ trnF M r 24 i = (if rgM M r i = true then -1 else M 24 i) ∧ trnF M r 23 i = (if rgM M r i = true then -1 else M 23 i) := by
  have h := trn_rob (M := M) (mem := rgM M r) i (nR M)
  have c : (i < nR M ∧ rgM M r i = true) ↔ rgM M r i = true := ⟨fun q => q.2, fun q => ⟨hi, q⟩⟩
  simp only [c] at h
  exact h
theorem INV_trn {B : Nat} {M : MS} {r : Nat} (hI : INV B M) (hr : r < nR M) (hn : 0 < rgN M r) : INV B (trnF M r) := by
  have h1 : ∀ k, rob k = false → cnr k = false → trnF M r k = M k := fun k a b => trnF_row (fun q => by rw [q] at a; cases a) (fun q => by rw [q] at a; cases a) (fun q => by rw [q] at a; cases a) b
  obtain ⟨b1, b2, b3, b4, b5⟩ := ring_spec hn
  obtain ⟨hc, ⟨r1, r2, r3, r4⟩, hf, hp⟩ := hI
  have hN : nR (trnF M r) = nR M := (eqN h1).1
  have e20 : trnF M r 20 = M 20 := trnF_row (by decide) (by decide) (by decide) rfl
  have e21 : trnF M r 21 = M 21 := trnF_row (by decide) (by decide) (by decide) rfl
  have e22 : trnF M r 22 = M 22 := trnF_row (by decide) (by decide) (by decide) rfl
  have hnx : ∀ i, i < rgN M r → M 18 (rgI M r (i + 1)) = M 24 (rgI M r i) ∧ ¬ M 24 (rgI M r i) = -1 := fun i hi => (nxtA_lt (b3 i hi)).2
  have hmem : ∀ i, i < rgN M r → rgM M r (rgI M r (i + 1)) = true := by
    intro i hi
    rw [rgM_t]
    by_cases e : i + 1 = rgN M r
    · exact ⟨0, by omega, by rw [e, b4]; rfl⟩
    · exact ⟨i + 1, by omega, rfl⟩
  refine ⟨cnt_eq hc h1, ⟨fun q hq => ?_, fun a b ha hb e => ?_, fun a b ha hb e en => ?_, fun a b ha hb ea eb e => ?_⟩, INVf_eq hf h1, INVp_eq hp h1⟩
  · rw [hN] at hq
    obtain ⟨k1, k2, k3, k4⟩ := r1 q hq
    obtain ⟨t1, t2, t3⟩ := trnF_rob (M := M) (r := r) hq
    have hs := (okS_eq (r := q) h1 (by rw [e20]) (by rw [e21]) (by rw [e22])).mpr k2
    by_cases hm : rgM M r q = true
    · rw [if_pos hm] at t1 t2 t3
      obtain ⟨i, hi, e⟩ := rgM_t.mp hm
      refine ⟨?_, hs, Or.inl t2, Or.inl t3⟩
      rw [t1, ← e, ← (hnx i hi).1]
      exact (r1 _ (ring_lt hr hn (i + 1) (by omega))).1
    · rw [if_neg hm] at t1 t2 t3
      exact ⟨by rw [t1]; exact k1, hs, by rw [t2, e20]; exact k3, by rw [t3]; exact k4⟩
  · rw [hN] at ha hb
    rw [(trnF_rob ha).1, (trnF_rob hb).1] at e
    by_cases ma : rgM M r a = true
    · rw [if_pos ma] at e
      obtain ⟨i, hi, ei⟩ := rgM_t.mp ma
      by_cases mb : rgM M r b = true
      · rw [if_pos mb] at e
        obtain ⟨j, hj, ej⟩ := rgM_t.mp mb
        rw [← ei, ← ej, ← (hnx i hi).1, ← (hnx j hj).1] at e
        have e2 := r2 _ _ (ring_lt hr hn (i + 1) (by omega)) (ring_lt hr hn (j + 1) (by omega)) e
        have key : ∀ i j, i < j → j < rgN M r → rgI M r (i + 1) = rgI M r (j + 1) → False := by
          intro i j hij hj q
          by_cases ee : j + 1 = rgN M r
          · rw [ee, b4] at q
            have := b5 (i + 1) (by omega) (by omega)
            omega
          · exact ring_inj (show i + 1 < j + 1 by omega) (show j + 1 < rgN M r by omega) q
        rcases Nat.lt_trichotomy i j with q | q | q
        · exact (key i j q hj e2).elim
        · rw [← ei, ← ej, q]
        · exact (key j i q hi e2.symm).elim
      · rw [if_neg mb, ← ei, ← (hnx i hi).1] at e
        have e2 := r2 _ _ (ring_lt hr hn (i + 1) (by omega)) hb e
        exact absurd (e2 ▸ hmem i hi) mb
    · rw [if_neg ma] at e
      by_cases mb : rgM M r b = true
      · obtain ⟨j, hj, ej⟩ := rgM_t.mp mb
        rw [if_pos mb, ← ej, ← (hnx j hj).1] at e
        have e2 := r2 _ _ ha (ring_lt hr hn (j + 1) (by omega)) e
        exact absurd (e2 ▸ hmem j hj) ma
      · rw [if_neg mb] at e
        exact r2 a b ha hb e
  · rw [hN] at ha hb; rw [e21] at e en; exact r3 a b ha hb e en
  · rw [hN] at ha hb; rw [e22] at ea eb e; rw [h1 14 rfl rfl] at e; exact r4 a b ha hb ea eb e
theorem trn_kpt (M : MS) (r : Nat) : kpt M (trnF M r) := fun k hk => by
  have := stR_rob hk
  exact trnF_row (fun q => by rw [q] at hk; cases hk) (fun q => by rw [q] at hk; cases hk) (fun q => by rw [q] at hk; cases hk) this.2
/-- who asks has a goal -/
theorem goalV_isC {B : Nat} {M : MS} (hI : INV B M) {r : Nat} (hr : r < nR M) (h : M 20 r = 1 ∨ M 20 r = 2 ∨ M 20 r = 4) : isC (goalV M r) := by
  have hk := (hI.r.1 r hr).2.1
  have h3 := hI.c.S3
  have h16 := hI.c.T16
  have tr : (∃ t, t < nT M ∧ M 21 r = nI t) → isC (M 7 (ix (M 21 r))) := by
    rintro ⟨t, ht, e⟩
    rw [e, ix_nI (by omega)]
    exact (hI.f.2.1 t ht).1
  unfold goalV
  rcases hk with q | q | q | q
  · rw [q.1] at h; exact absurd h (by decide)
  · split
    · obtain ⟨-, -, k, s, n, hv, hk, hs, hks, -⟩ := q
      have := VL_lt hI.c hv
      rw [hk, ix_nI (by omega), hks, ix_nI (by omega)]
      exact hI.f.2.2.1 s hs
    · split
      · exact tr q.2.1
      · rename_i c1 c2
        rcases h with h | h | h
        · exact absurd (Or.inl h) c2
        · exact absurd h c1
        · exact absurd (Or.inr h) c2
  · rw [if_neg (by rw [q.1]; decide), if_pos (Or.inr q.1)]; exact tr q.2.1
  · rw [q.1] at h; exact absurd h (by decide)
theorem asks_goal {B : Nat} {M : MS} (hI : INV B M) {r : Nat} (hr : r < nR M) (h : ¬ M 24 r = -1) : isC (goalV M r) := by
  rcases (hI.r.1 r hr).2.2.1 with q | q
  · exact absurd q h
  · exact goalV_isC hI hr q.2
/-- two robots that ask for each other's cell -/
theorem ring_two {M : MS} {r : Nat} (hr : r < nR M) (h : rgN M r = 2) : ∃ o, nxtA M r = some o ∧ o < nR M ∧ ¬ M 24 r = -1 ∧ ¬ M 24 o = -1 ∧ r ≠ o := by
  obtain ⟨b1, b2, b3, b4, b5⟩ := ring_spec (M := M) (r := r) (by omega)
  have h0 := b3 0 (by omega)
  have h1 := b3 1 (by omega)
  have h5 := b5 1 (by omega) (by omega)
  exact ⟨rgI M r 1, h0, (nxtA_lt h0).1, (nxtA_lt h0).2.2, (nxtA_lt h1).2.2, by omega⟩
theorem INV_res {B : Nat} {M : MS} {r : Nat} (hI : INV B M) (hr : r < nR M) : INV B (resS M r) ∧ kpt M (resS M r) := by
  unfold resS
  split
  · exact ⟨INV_trn hI hr (by omega), trn_kpt M r⟩
  · split
    · rename_i h2
      obtain ⟨o, ho, hoR, ha, hb, hne⟩ := ring_two hr h2
      unfold brkF
      rw [ho]
      show INV B (if yldB M (if abvB M r o = true then o else r) (if abvB M r o = true then r else o) = true then yldG M (if abvB M r o = true then o else r) (if abvB M r o = true then r else o) else if yldB M (if abvB M r o = true then r else o) (if abvB M r o = true then o else r) = true then yldG M (if abvB M r o = true then r else o) (if abvB M r o = true then o else r) else mset M 31 0 (M 31 0 + 1)) ∧ kpt M (if yldB M (if abvB M r o = true then o else r) (if abvB M r o = true then r else o) = true then yldG M (if abvB M r o = true then o else r) (if abvB M r o = true then r else o) else if yldB M (if abvB M r o = true then r else o) (if abvB M r o = true then o else r) = true then yldG M (if abvB M r o = true then r else o) (if abvB M r o = true then o else r) else mset M 31 0 (M 31 0 + 1))
      have hl : (if abvB M r o = true then o else r) < nR M := by split <;> assumption
      have hh : (if abvB M r o = true then r else o) < nR M := by split <;> assumption
      generalize (if abvB M r o = true then o else r) = lo at hl ⊢
      generalize (if abvB M r o = true then r else o) = hi at hh ⊢
      split
      · exact ⟨INV_yld hI hl hh, (yld_off M _ _).kpt⟩
      · split
        · exact ⟨INV_yld hI hh hl, (yld_off M _ _).kpt⟩
        · exact ⟨INV_cnr hI rfl, kpt.rf.set rfl⟩
    · exact ⟨hI, kpt.rf⟩
theorem fsW_in {f : Nat → Option Nat} {x : Nat} : ∀ {n : Nat}, fsW f n = some x → ∃ w, w < 4 ∧ f w = some x
  | 0, h => by simp [fsW] at h
  | n + 1, h => by
    unfold fsW at h
    split at h
    · rename_i y e; cases h; exact ⟨3 - n, by omega, e⟩
    · exact fsW_in h
theorem asdf_in {M : MS} {j w x : Nat} (hj : j < 64) (hw : w < 4) (h : asdf M j w = some x) : x < 64 ∧ rbA M (nI x) = none := by
  unfold asdf at h
  split at h
  · cases h
  · rename_i y e
    split at h
    · rename_i c; cases h; exact ⟨nbr_lt _ hj _ hw _ e, c.2.1⟩
    · cases h
theorem INV_asS {B : Nat} {M : MS} {r : Nat} (hI : INV B M) (hr : r < nR M) : INV B (asS M r) ∧ kpt M (asS M r) := by
  unfold asS
  split
  · unfold asdF
    split
    · exact ⟨hI, kpt.rf⟩
    · rename_i x e
      obtain ⟨w, hw4, hw⟩ := fsW_in e
      obtain ⟨j, hj, ej⟩ := (hI.r.1 r hr).1
      rw [ej, ix_nI (by omega)] at hw
      obtain ⟨a, b⟩ := asdf_in hj hw4 hw
      exact ⟨INV_mv hI hr ⟨x, a, rfl⟩ b, (mv_off M r _).kpt⟩
  · exact ⟨hI, kpt.rf⟩
/-! sending a robot -/
theorem INV_snd {B : Nat} {M M' : MS} {s k : Nat} (hI : INV B M) (hs : s < nS M) (hk : VL M k = true) (hc : M 14 k = nI s) (hl : ¬ M 13 k ≤ 0) (hh : hasB M (nI s) = false) (h : sndF M s k = some M') : INV B M' ∧ kpt M M' := by
  unfold sndF at h
  cases hp : trayB M s k with
  | none => rw [hp] at h; cases h
  | some p =>
    rw [hp] at h
    dsimp only at h
    cases hq : robB M (ix (M 7 p.1)) with
    | none => rw [hq] at h; cases h
    | some q =>
      rw [hq] at h
      cases h
      obtain ⟨ht, hcan⟩ := trayB_lt hp
      obtain ⟨hr, hst⟩ := robB_lt hq
      have h30 := VL_lt hI.c hk
      have off : offR M (becF (mset (mset M 22 q.1 (nI k)) 21 q.1 (nI p.1)) q.1 1) q.1 := ((((((offR.rf.set rfl).set rfl).set rfl).set rfl).set rfl).set rfl).set rfl
      have e18 : becF (mset (mset M 22 q.1 (nI k)) 21 q.1 (nI p.1)) q.1 1 18 = M 18 := rfl
      have e21 : becF (mset (mset M 22 q.1 (nI k)) 21 q.1 (nI p.1)) q.1 1 21 q.1 = nI p.1 := by
        rw [bec_21, if_neg (by decide)]; exact upd_s _ _ _
      have e22 : becF (mset (mset M 22 q.1 (nI k)) 21 q.1 (nI p.1)) q.1 1 22 q.1 = nI k := by
        rw [bec_22, if_pos (Or.inl rfl)]; exact upd_s _ _ _
      have en := eqN off.1
      obtain ⟨n, hn, e13⟩ := (hI.f.2.2.2.1 k hk).2.1
      refine ⟨INV_upd hI off ⟨by rw [e18]; exact (hI.r.1 _ hr).1, Or.inr (Or.inl ⟨Or.inl (bec_20 ..), ⟨p.1, by rw [en.2.2.1]; exact ht, e21⟩, k, s, n, by rw [en.2.2.2.2.2.2.2.2.1]; exact hk, e22, by rw [en.2.1]; exact hs, by rw [off.1 14 rfl rfl]; exact hc, ?_, hn, by rw [off.1 13 rfl rfl]; exact e13⟩), Or.inl (bec_24 ..), Or.inl (bec_23 ..)⟩ ?_ ?_ ?_, off.kpt⟩
      · rcases Nat.eq_zero_or_pos n with q | q
        · rw [e13, q] at hl; exact absurd (by decide) hl
        · exact q
      · rw [e18]; exact fun a ha hne e => hne (hI.r.2.1 a q.1 ha hr e)
      · right
        rw [e21]
        intro a ha hne e
        unfold canT at hcan
        simp only [Bool.and_eq_true, decide_eq_true_eq] at hcan
        have n1 := lastP_none.mp hcan.2.2.1 a ha
        have n2 := lastP_none.mp hcan.2.2.2 a ha
        by_cases c1 : M 20 a = 1
        · simp [e, c1] at n2
        · simp [e, c1] at n1
      · right
        rw [e22, ix_nI (by omega), hc]
        intro a ha hne e2 e
        unfold hasB at hh
        have : anyB (wkB M (nI s)) (nR M) = true := anyB_t.mpr ⟨a, ha, by simp [wkB, e, e2]⟩
        rw [this] at hh; cases hh
theorem INV_srvW {B : Nat} {M : MS} {s : Nat} (hI : INV B M) (hs : s < nS M) (hh : hasB M (nI s) = false) : ∀ (f : Nat) (af : Int32), INV B (srvW s f M af) ∧ kpt M (srvW s f M af)
  | 0, af => ⟨hI, kpt.rf⟩
  | f + 1, af => by
    cases hn : nlGo M (nI s) af 30 with
    | none => rw [srvW_none hn]; exact ⟨hI, kpt.rf⟩
    | some k =>
      have hc := (nlGo_in hn).2
      unfold cndL at hc
      simp only [Bool.and_eq_true, decide_eq_true_eq] at hc
      by_cases hl : M 13 k ≤ 0
      · rw [srvW_skip hn hl]; exact INV_srvW hI hs hh f _
      · cases hq : sndF M s k with
        | none => rw [srvW_no hn hl hq]; exact INV_srvW hI hs hh f _
        | some M' => rw [srvW_yes hn hl hq]; exact INV_snd hI hs hc.1 hc.2.1 hl hh hq
theorem INV_srv {B : Nat} {M : MS} {s : Nat} (hI : INV B M) (hs : s < nS M) : INV B (srvF M s) ∧ kpt M (srvF M s) := by
  unfold srvF
  split
  · exact ⟨hI, kpt.rf⟩
  · rename_i h
    exact INV_srvW hI hs (by simpa using h) 31 0
/-! picking -/
def pkC (M : MS) (k t : Nat) : MS := mset (mset (mset (mset (mset (mset (mset M 9 t (M 9 t - 1)) 13 k (M 13 k - 1)) 33 (ix (M 8 t)) (M 33 (ix (M 8 t)) + 1)) 35 (nP M) (nI t)) 36 (nP M) (nI (k / 3))) 37 (nP M) (M 1 0)) 34 0 (nI (nP M + 1))
theorem pkB_C {M : MS} {r k t : Nat} (hk : M 22 r = nI k) (ht : M 21 r = nI t) (hk2 : k < 30) (ht2 : t < 16) : pkB M r = pkC M k t := by
  unfold pkB pkC
  rw [hk, ht, ix_nI (by omega), ix_nI (by omega)]
def pkRow (j : Nat) : Bool := j == 9 || j == 13 || j == 33 || j == 35 || j == 36 || j == 37 || j == 34
theorem pkC_n {M : MS} {k t j : Nat} (h : pkRow j = false) : pkC M k t j = M j := by
  have e : ∀ q, pkRow q = true → j ≠ q := fun q hq a => by rw [a, hq] at h; cases h
  unfold pkC
  rw [mset_n _ _ _ (e 34 rfl), mset_n _ _ _ (e 37 rfl), mset_n _ _ _ (e 36 rfl), mset_n _ _ _ (e 35 rfl), mset_n _ _ _ (e 33 rfl), mset_n _ _ _ (e 13 rfl), mset_n _ _ _ (e 9 rfl)]
theorem pk_bec (M : MS) (r k t : Nat) : becF (pkC M k t) r 4 = pkC (becF M r 4) k t := by
  funext j
  by_cases h : pkRow j = true
  · simp only [pkRow, Bool.or_eq_true, beq_iff_eq] at h
    rcases h with ((((((rfl | rfl) | rfl) | rfl) | rfl) | rfl) | rfl) <;> rfl
  · have h' : pkRow j = false := by simpa using h
    rw [pkC_n h']
    by_cases h2 : j = 20 ∨ j = 21 ∨ j = 22 ∨ j = 23 ∨ j = 24
    · rcases h2 with rfl | rfl | rfl | rfl | rfl <;> rfl
    · unfold becF
      rw [mset_n _ _ _ (by omega), mset_n _ _ _ (by omega), mset_n _ _ _ (by omega), mset_n _ _ _ (by omega), mset_n _ _ _ (by omega), mset_n _ _ _ (by omega), mset_n _ _ _ (by omega), mset_n _ _ _ (by omega), mset_n _ _ _ (by omega), mset_n _ _ _ (by omega)]
      exact pkC_n h'
theorem INV_pkC {B : Nat} {M : MS} {k t n : Nat} (hI : INV B M) (hv : VL M k = true) (ht : t < nT M) (hn : M 13 k = nI n) (h0 : 0 < n) (n50 : n ≤ 50) (hw : ∀ r, r < nR M → M 22 r = nI k → 1 < n) : INV B (pkC M k t) := by
  have h30 := VL_lt hI.c hv
  obtain ⟨hc, ⟨r1, r2, r3, r4⟩, hf, hp⟩ := hI
  have kp : kpt M (pkC M k t) := fun j hj => pkC_n (by
    cases h : pkRow j with
    | false => rfl
    | true =>
      simp only [pkRow, Bool.or_eq_true, beq_iff_eq] at h
      rcases h with ((((((rfl | rfl) | rfl) | rfl) | rfl) | rfl) | rfl) <;> cases hj)
  have eR : nR (pkC M k t) = nR M := kp.eR
  have eS : nS (pkC M k t) = nS M := kp.eS
  have eT : nT (pkC M k t) = nT M := rfl
  have eO : nO (pkC M k t) = nO M := rfl
  have eL : nL (pkC M k t) = nL M := rfl
  have eV : VL (pkC M k t) = VL M := rfl
  have eC : nC (pkC M k t) = nC M := rfl
  have e13 : ∀ j, pkC M k t 13 j = if j = k then nI (n - 1) else M 13 j := by
    intro j
    show upd (M 13) k (M 13 k - 1) j = _
    unfold upd
    split
    · rw [hn, show nI n = nI (n - 1 + 1) by rw [Nat.sub_add_cancel h0], nI_pred]
    · rfl
  have hVk : ∀ j, VL M j = true → okL (pkC M k t) B j := by
    intro j hj
    obtain ⟨o1, o2, o3⟩ := hf.2.2.2.1 j hj
    refine ⟨o1, ?_, o3⟩
    rw [e13]
    split
    · exact ⟨n - 1, by omega, rfl⟩
    · exact o2
  refine ⟨kp.cnt hc, ⟨fun q hq => ?_, ?_, ?_, ?_⟩, ⟨?_, ?_, ?_, ?_, ?_, ?_, ?_, ?_⟩, ?_⟩
  · rw [eR] at hq
    obtain ⟨k1, k2, k3, k4⟩ := r1 q hq
    refine ⟨k1, ?_, k3, k4⟩
    rcases k2 with s | s | s | s
    · exact Or.inl s
    · obtain ⟨s1, s2, k', s', n', v1, v2, v3, v4, v5, v6, v7⟩ := s
      refine Or.inr (Or.inl ⟨s1, s2, k', s', if k' = k then n - 1 else n', v1, v2, v3, v4, ?_, ?_, ?_⟩)
      · split
        · rename_i e; have := hw q hq (e ▸ v2); omega
        · exact v5
      · split
        · omega
        · exact v6
      · rw [e13]
        by_cases e : k' = k
        · rw [if_pos e, if_pos e]
        · rw [if_neg e, if_neg e]; exact v7
    · exact Or.inr (Or.inr (Or.inl s))
    · exact Or.inr (Or.inr (Or.inr s))
  · intro a b ha hb e; exact r2 a b (eR ▸ ha) (eR ▸ hb) e
  · intro a b ha hb e en; exact r3 a b (eR ▸ ha) (eR ▸ hb) e en
  · intro a b ha hb ea eb e; exact r4 a b (eR ▸ ha) (eR ▸ hb) ea eb e
  · exact hf.1
  · exact hf.2.1
  · exact hf.2.2.1
  · exact hVk
  · exact hf.2.2.2.2.1
  · exact hf.2.2.2.2.2.1
  · exact hf.2.2.2.2.2.2.1
  · exact hf.2.2.2.2.2.2.2
  · obtain ⟨p1, p2, p3⟩ := hp
    have hpk : pot M k = n := by unfold pot; rw [if_pos hv, hn, nI_clamp (by omega)]
    have hpot : pot (pkC M k t) = fun j => if j = k then n - 1 else pot M j := by
      funext j
      unfold pot
      rw [eV, e13]
      by_cases e : j = k
      · rw [if_pos e, if_pos e, e, if_pos hv, nI_clamp (by omega)]
      · rw [if_neg e, if_neg e]
    have hu := fb_sm_upd (pot M) (n - 1) (i := k) (n := 30) h30
    have hle := fb_sm_part (pot M) (i := k) (n := 30) h30
    have hnP : nP (pkC M k t) = nP M + 1 := by
      show (nI (nP M + 1)).toNatClampNeg = _
      rw [nI_clamp (by omega)]
    refine ⟨?_, ?_, fun i hi => ?_⟩
    · rw [hnP]; rfl
    · rw [hnP, hpot]; omega
    · rw [hnP] at hi
      have hko : k / 3 < nO M := by
        unfold VL at hv
        simp only [Bool.and_eq_true, decide_eq_true_eq] at hv
        exact hv.1
      by_cases e : i = nP M
      · subst e
        exact ⟨⟨t, ht, upd_s _ _ _⟩, k / 3, hko, upd_s _ _ _⟩
      · obtain ⟨q1, q2⟩ := p3 i (by omega)
        refine ⟨?_, ?_⟩
        · show ∃ t', t' < nT M ∧ upd (M 35) (nP M) (nI t) i = nI t'
          rw [upd_n _ _ e]; exact q1
        · show ∃ o, o < nO M ∧ upd (M 36) (nP M) (nI (k / 3)) i = nI o
          rw [upd_n _ _ e]; exact q2
theorem pk_kpt (M : MS) (r : Nat) : kpt M (pkF M r) := by
  have h : kpt M (pkB M r) := ((((((kpt.rf.set rfl).set rfl).set rfl).set rfl).set rfl).set rfl).set rfl
  unfold pkF
  split
  · exact ((((h.set rfl).set rfl).set rfl).set rfl).set rfl
  · exact h
/-- what a robot that serves has -/
theorem srvg {B : Nat} {M : MS} {r : Nat} (hI : INV B M) (hr : r < nR M) (h3 : M 20 r = 3) : ∃ t k s n, t < nT M ∧ M 21 r = nI t ∧ VL M k = true ∧ M 22 r = nI k ∧ s < nS M ∧ M 14 k = nI s ∧ 0 < n ∧ n ≤ 50 ∧ M 13 k = nI n := by
  rcases (hI.r.1 r hr).2.1 with q | q | q | q
  · rw [q.1] at h3; exact absurd h3 (by decide)
  · obtain ⟨-, ⟨t, ht, e⟩, k, s, n, v⟩ := q
    exact ⟨t, k, s, n, ht, e, v⟩
  · rw [q.1] at h3; exact absurd h3 (by decide)
  · rw [q.1] at h3; exact absurd h3 (by decide)
theorem INV_pk {B : Nat} {M : MS} {r : Nat} (hI : INV B M) (hr : r < nR M) (h3 : M 20 r = 3) : INV B (pkF M r) := by
  obtain ⟨t, k, s, n, ht, e21, hv, e22, hs, e14, h0, h50, e13⟩ := srvg hI hr h3
  have h30 := VL_lt hI.c hv
  have h16 := hI.c.T16
  have uniq : ∀ q, q < nR M → M 22 q = nI k → q = r := fun q hq e => hI.r.2.2.2 q r hq hr (by rw [e]; exact nI_m1 (by omega)) (by rw [e22]; exact nI_m1 (by omega)) (by rw [e, e22])
  unfold pkF
  rw [pkB_C e22 e21 h30 (by omega)]
  split
  · rw [pk_bec]
    have off := bec_off M r 4
    have en := eqN off.1
    refine INV_pkC (INV_bec4 hI hr ⟨t, ht, e21⟩) (n := n) (by rw [en.2.2.2.2.2.2.2.2.1]; exact hv) (by rw [en.2.2.1]; exact ht) (by rw [off.1 13 rfl rfl]; exact e13) h0 h50 (fun q hq e => ?_)
    rw [en.1] at hq
    by_cases eq : q = r
    · rw [eq, bec_22, if_neg (by decide)] at e
      exact absurd e.symm (nI_m1 (by omega))
    · rw [off.2 22 q rfl eq] at e
      exact absurd (uniq q hq e) eq
  · rename_i hn
    refine INV_pkC hI hv ht e13 h0 h50 (fun q hq e => ?_)
    rcases Nat.lt_or_ge 1 n with g | g
    · exact g
    · have : n = 1 := by omega
      rw [e22, ix_nI (by omega), e13, this] at hn
      exact absurd (Or.inl (by decide)) hn
theorem INV_pkS {B : Nat} {M : MS} {r : Nat} (hI : INV B M) (hr : r < nR M) : INV B (pkS M r) ∧ kpt M (pkS M r) := by
  unfold pkS
  split
  · rename_i h; exact ⟨INV_pk hI hr h, pk_kpt M r⟩
  · exact ⟨hI, kpt.rf⟩
theorem pk_1500 {B : Nat} {M : MS} {r : Nat} (hI : INV B M) (hr : r < nR M) (h3 : M 20 r = 3) : nP M < 1500 := by
  obtain ⟨t, k, s, n, ht, e21, hv, e22, hs, e14, h0, h50, e13⟩ := srvg hI hr h3
  have h30 := VL_lt hI.c hv
  have hle := fb_sm_part (pot M) (i := k) (n := 30) h30
  have hpk : pot M k = n := by unfold pot; rw [if_pos hv, e13, nI_clamp (by omega)]
  have := hI.p.2.1
  omega
theorem INV_askK {B : Nat} {M : MS} {r : Nat} (hI : INV B M) (hr : r < nR M) : INV B (askF M r) ∧ kpt M (askF M r) := ⟨INV_ask hI hr, (ask_off M r).kpt⟩
theorem arr_kpt (M : MS) (r : Nat) : kpt M (arrF M r) := by
  unfold arrF
  split
  · exact (bec_off M r _).kpt
  · exact kpt.rf
theorem INV_arrK {B : Nat} {M : MS} {r : Nat} (hI : INV B M) (hr : r < nR M) : INV B (arrF M r) ∧ kpt M (arrF M r) := ⟨INV_arr hI hr, arr_kpt M r⟩
/-! the passes -/
theorem itR_INV {B : Nat} {f : MS → Nat → MS} {M : MS} {N : Nat} (hI : INV B M) (hf : ∀ M' r, INV B M' → kpt M M' → r < N → INV B (f M' r) ∧ kpt M' (f M' r)) : ∀ n, n ≤ N → INV B (itR f n M) ∧ kpt M (itR f n M)
  | 0, _ => ⟨hI, kpt.rf⟩
  | n + 1, h => by
    obtain ⟨a, b⟩ := itR_INV hI hf n (by omega)
    obtain ⟨c, d⟩ := hf _ n a b (by omega)
    exact ⟨c, b.tr d⟩
/-- the moves of a tick, one after another -/
theorem selG_in {M : MS} {dn : Nat → Bool} {f : Nat} : ∀ {n : Nat}, selG M dn n = some f → f < n ∧ dn f = false
  | 0, h => by simp [selG] at h
  | n + 1, h => by
    unfold selG at h
    split at h
    · rename_i c; cases h; exact ⟨Nat.lt_succ_self _, c.1⟩
    · have := selG_in h; exact ⟨by omega, this.2⟩
theorem goGo_inv {B : Nat} {M : MS} (hI : INV B M) : ∀ t, INV B (goGo M t).1 ∧ kpt M (goGo M t).1 ∧ ∀ j, (goGo M t).2 j = false → j < nR M ∧ isC ((goGo M t).1 24 j) ∧ (goGo M t).1 24 j = M 24 j
  | 0 => ⟨hI, kpt.rf, fun j hj => by
      have h : dn0 M j = false := hj
      unfold dn0 at h
      simp only [Bool.or_eq_false_iff, decide_eq_false_iff_not] at h
      have hr : j < nR M := by omega
      rcases (hI.r.1 j hr).2.2.1 with q | q
      · exact absurd q h.2
      · exact ⟨hr, q.1, rfl⟩⟩
  | t + 1 => by
    obtain ⟨a, b, c⟩ := goGo_inv hI t
    unfold goGo
    cases hs : selG (goGo M t).1 (goGo M t).2 (nR M) with
    | none => exact ⟨a, b, c⟩
    | some f =>
      obtain ⟨hf, hd⟩ := selG_in hs
      obtain ⟨c1, c2, c3⟩ := c f hd
      dsimp only
      split
      · rename_i hno
        refine ⟨INV_mv a (by rw [b.eR]; exact hf) c2 hno, b.tr (mv_off _ f _).kpt, fun j hj => ?_⟩
        by_cases e : j = f
        · rw [if_pos e] at hj; cases hj
        · rw [if_neg e] at hj
          rw [(mv_off _ f _).2 24 j rfl e]
          exact c j hj
      · refine ⟨a, b, fun j hj => ?_⟩
        by_cases e : j = f
        · rw [if_pos e] at hj; cases hj
        · rw [if_neg e] at hj
          exact c j hj
theorem INV_go {B : Nat} {M : MS} (hI : INV B M) : INV B (goF M) ∧ kpt M (goF M) := ⟨(goGo_inv hI _).1, (goGo_inv hI _).2.1⟩
theorem INV_time {B : Nat} {M : MS} (hI : INV B M) (ht : tN M < 3000) : INV B (mset M 1 0 (M 1 0 + 1)) := by
  obtain ⟨hc, hr, hf, hp⟩ := hI
  have h8 := hf.2.2.2.2.2.2.2
  have e : mset M 1 0 (M 1 0 + 1) 1 0 = nI (tN M + 1) := by
    show upd (M 1) 0 (M 1 0 + 1) 0 = _
    rw [upd_s, h8.1, nI_1]
  refine ⟨hc.set rfl, hr, ⟨hf.1, hf.2.1, hf.2.2.1, hf.2.2.2.1, hf.2.2.2.2.1, hf.2.2.2.2.2.1, hf.2.2.2.2.2.2.1, ?_⟩, hp⟩
  have e2 : tN (mset M 1 0 (M 1 0 + 1)) = tN M + 1 := by unfold tN; rw [e, nI_clamp (by omega)]; rfl
  rw [e, e2]
  exact ⟨rfl, by omega⟩
def tmS (M : MS) : MS := mset M 1 0 (M 1 0 + 1)
theorem tm_eq {B : Nat} {M : MS} (hI : INV B M) (ht : tN M < 3000) : INV B (tmS M) ∧ kpt (tmS M) (tmS M) := ⟨INV_time hI ht, kpt.rf⟩
theorem ps1_inv {B : Nat} {M : MS} (hI : INV B M) (ht : tN M < 3000) : ∀ n, n ≤ nR M → INV B (itR pkS n (tmS M)) ∧ kpt (tmS M) (itR pkS n (tmS M)) := fun n hn => by
  have h1 := tm_eq hI ht
  have h := itR_INV h1.1 (f := pkS) (N := nR M) (fun M' r a b c => INV_pkS a (by rw [(h1.2.tr b).eR]; exact c)) n hn
  exact ⟨h.1, h1.2.tr h.2⟩
theorem ps1_eq {B : Nat} {M : MS} (hI : INV B M) (ht : tN M < 3000) : INV B (ps1 M) ∧ kpt (tmS M) (ps1 M) := ps1_inv hI ht (nR M) (Nat.le_refl _)
theorem ps2_inv {B : Nat} {M : MS} (hI : INV B M) (ht : tN M < 3000) : ∀ n, n ≤ nS M → INV B (itR srvF n (ps1 M)) ∧ kpt (tmS M) (itR srvF n (ps1 M)) := fun n hn => by
  have h1 := ps1_eq hI ht
  have h := itR_INV h1.1 (f := srvF) (N := nS M) (fun M' r a b c => INV_srv a (by rw [(h1.2.tr b).eS]; exact c)) n hn
  exact ⟨h.1, h1.2.tr h.2⟩
theorem ps2_eq {B : Nat} {M : MS} (hI : INV B M) (ht : tN M < 3000) : INV B (ps2 M) ∧ kpt (tmS M) (ps2 M) := ps2_inv hI ht (nS M) (Nat.le_refl _)
theorem ps3_inv {B : Nat} {M : MS} (hI : INV B M) (ht : tN M < 3000) : ∀ n, n ≤ nR M → INV B (itR askF n (ps2 M)) ∧ kpt (tmS M) (itR askF n (ps2 M)) := fun n hn => by
  have h1 := ps2_eq hI ht
  have h := itR_INV h1.1 (f := askF) (N := nR M) (fun M' r a b c => INV_askK a (by rw [(h1.2.tr b).eR]; exact c)) n hn
  exact ⟨h.1, h1.2.tr h.2⟩
theorem ps3_eq {B : Nat} {M : MS} (hI : INV B M) (ht : tN M < 3000) : INV B (ps3 M) ∧ kpt (tmS M) (ps3 M) := ps3_inv hI ht (nR M) (Nat.le_refl _)
theorem ps4_inv {B : Nat} {M : MS} (hI : INV B M) (ht : tN M < 3000) : ∀ n, n ≤ nR M → INV B (itR resS n (ps3 M)) ∧ kpt (tmS M) (itR resS n (ps3 M)) := fun n hn => by
  have h1 := ps3_eq hI ht
  have h := itR_INV h1.1 (f := resS) (N := nR M) (fun M' r a b c => INV_res a (by rw [(h1.2.tr b).eR]; exact c)) n hn
  exact ⟨h.1, h1.2.tr h.2⟩
theorem ps4_eq {B : Nat} {M : MS} (hI : INV B M) (ht : tN M < 3000) : INV B (ps4 M) ∧ kpt (tmS M) (ps4 M) := ps4_inv hI ht (nR M) (Nat.le_refl _)
theorem ps5_inv {B : Nat} {M : MS} (hI : INV B M) (ht : tN M < 3000) : ∀ n, n ≤ nR M → INV B (itR asS n (ps4 M)) ∧ kpt (tmS M) (itR asS n (ps4 M)) := fun n hn => by
  have h1 := ps4_eq hI ht
  have h := itR_INV h1.1 (f := asS) (N := nR M) (fun M' r a b c => INV_asS a (by rw [(h1.2.tr b).eR]; exact c)) n hn
  exact ⟨h.1, h1.2.tr h.2⟩
theorem ps5_eq {B : Nat} {M : MS} (hI : INV B M) (ht : tN M < 3000) : INV B (ps5 M) ∧ kpt (tmS M) (ps5 M) := ps5_inv hI ht (nR M) (Nat.le_refl _)
theorem ps6_eq {B : Nat} {M : MS} (hI : INV B M) (ht : tN M < 3000) : INV B (ps6 M) ∧ kpt (tmS M) (ps6 M) := by
  have h := ps5_eq hI ht
  have h2 := INV_go h.1
  exact ⟨h2.1, h.2.tr h2.2⟩
theorem pas_inv {B : Nat} {M : MS} (hI : INV B M) (ht : tN M < 3000) : ∀ n, n ≤ nR M → INV B (itR arrF n (ps6 M)) ∧ kpt (tmS M) (itR arrF n (ps6 M)) := fun n hn => by
  have h1 := ps6_eq hI ht
  have h := itR_INV h1.1 (f := arrF) (N := nR M) (fun M' r a b c => INV_arrK a (by rw [(h1.2.tr b).eR]; exact c)) n hn
  exact ⟨h.1, h1.2.tr h.2⟩
theorem pas_eq {B : Nat} {M : MS} (hI : INV B M) (ht : tN M < 3000) : INV B (pasF M) ∧ kpt (tmS M) (pasF M) := pas_inv hI ht (nR M) (Nat.le_refl _)
theorem tmS_t {B : Nat} {M : MS} (hI : INV B M) (ht : tN M < 3000) : tN (tmS M) = tN M + 1 := by
  have h8 := hI.f.2.2.2.2.2.2.2
  show (upd (M 1) 0 (M 1 0 + 1) 0).toNatClampNeg = _
  rw [upd_s, h8.1, nI_1, nI_clamp (by omega)]
theorem pas_t {B : Nat} {M : MS} (hI : INV B M) (ht : tN M < 3000) : tN (pasF M) = tN M + 1 := by
  have h := (pas_eq hI ht).2 1 rfl
  have : tN (pasF M) = tN (tmS M) := by unfold tN; rw [h]
  rw [this, tmS_t hI ht]
theorem itP_inv {B : Nat} {M : MS} (hI : INV B M) : ∀ n, tN M + n ≤ 3000 → INV B (itP n M) ∧ tN (itP n M) = tN M + n
  | 0, _ => ⟨hI, rfl⟩
  | n + 1, h => by
    obtain ⟨a, b⟩ := itP_inv hI n (by omega)
    refine ⟨(pas_eq a (by omega)).1, ?_⟩
    show tN (pasF (itP n M)) = _
    rw [pas_t a (by omega), b]
    omega
