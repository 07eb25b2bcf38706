/-! WHAT HOLDS ALL ALONG IS KEPT BY THE TICK'S STEPS -/
def rob (k : Nat) : Bool := k == 18 || k == 20 || k == 21 || k == 22 || k == 23 || k == 24 || k == 25
def cnr (k : Nat) : Bool := k == 28 || k == 29 || k == 30 || k == 31
def offR (M M' : MS) (r : Nat) : Prop := (∀ k, rob k = false → cnr k = false → M' k = M k) ∧ ∀ k i, cnr k = false → i ≠ r → M' k i = M k i
theorem offR.rf {M : MS} {r : Nat} : offR M M r := ⟨fun _ _ _ => rfl, fun _ _ _ _ => rfl⟩
theorem offR.set {M M' : MS} {r k : Nat} {v : Int32} (h : offR M M' r) (hk : rob k = true) : offR M (mset M' k r v) r := by
  refine ⟨fun j a b => ?_, fun j i a b => ?_⟩
  · rw [mset_n M' r v (fun q => by rw [q, hk] at a; cases a)]; exact h.1 j a b
  · by_cases e : j = k
    · subst e
      rw [mset_s]
      unfold upd
      rw [if_neg b]
      exact h.2 j i a b
    · rw [mset_n M' r v e]; exact h.2 j i a b
theorem offR.cn {M M' : MS} {r k i : Nat} {v : Int32} (h : offR M M' r) (hk : cnr k = true) : offR M (mset M' k i v) r := by
  refine ⟨fun j a b => ?_, fun j q a b => ?_⟩
  · rw [mset_n M' i v (fun q => by rw [q, hk] at b; cases b)]; exact h.1 j a b
  · rw [mset_n M' i v (fun q => by rw [q, hk] at a; cases a)]; exact h.2 j q a b
/-- rows that no robot's step changes -/
theorem eqN {M M' : MS} (h : ∀ k, rob k = false → cnr k = false → M' k = M k) : nR M' = nR M ∧ nS M' = nS M ∧ nT M' = nT M ∧ nO M' = nO M ∧ nL M' = nL M ∧ nP M' = nP M ∧ nC M' = nC M ∧ tN M' = tN M ∧ VL M' = VL M ∧ pot M' = pot M := by
  have a1 : nR M' = nR M := by unfold nR; rw [h 17 rfl rfl]
  have a2 : nS M' = nS M := by unfold nS; rw [h 4 rfl rfl]
  have a3 : nT M' = nT M := by unfold nT; rw [h 6 rfl rfl]
  have a4 : nO M' = nO M := by unfold nO; rw [h 10 rfl rfl]
  have a5 : nL M' = nL M := by funext o; unfold nL; rw [h 11 rfl rfl]
  have a6 : nP M' = nP M := by unfold nP; rw [h 34 rfl rfl]
  have a7 : nC M' = nC M := by unfold nC; rw [h 16 rfl rfl]
  have a8 : tN M' = tN M := by unfold tN; rw [h 1 rfl rfl]
  have a9 : VL M' = VL M := by funext k; unfold VL; rw [a4, a5]
  have a10 : pot M' = pot M := by funext k; unfold pot; rw [a9, h 13 rfl rfl]
  exact ⟨a1, a2, a3, a4, a5, a6, a7, a8, a9, a10⟩
theorem cnt_eq {M M' : MS} (hc : CNT M) (h : ∀ k, rob k = false → cnr k = false → M' k = M k) : CNT M' := hc.congr (fun k hk => h k (by
  simp only [cntRow, Bool.or_eq_true, beq_iff_eq] at hk
  rcases hk with (((rfl | rfl) | rfl) | rfl) | rfl <;> rfl) (by
  simp only [cntRow, Bool.or_eq_true, beq_iff_eq] at hk
  rcases hk with (((rfl | rfl) | rfl) | rfl) | rfl <;> rfl))
theorem okR_eq {M M' : MS} {q : Nat} (h : ∀ k, rob k = false → cnr k = false → M' k = M k) (h2 : ∀ k, cnr k = false → M' k q = M k q) : okR M' q ↔ okR M q := by
  obtain ⟨a1, a2, a3, a4, a5, a6, a7, a8, a9, a10⟩ := eqN h
  unfold okR okS
  rw [h2 18 rfl, h2 20 rfl, h2 21 rfl, h2 22 rfl, h2 23 rfl, h2 24 rfl, a2, a3, a9, h 13 rfl rfl, h 14 rfl rfl]
theorem INVf_eq {B : Nat} {M M' : MS} (hf : INVf B M) (h : ∀ k, rob k = false → cnr k = false → M' k = M k) : INVf B M' := by
  obtain ⟨a1, a2, a3, a4, a5, a6, a7, a8, a9, a10⟩ := eqN h
  unfold INVf okL at *
  rw [a2, a3, a4, a5, a7, a8, a9, h 1 rfl rfl, h 3 rfl rfl, h 5 rfl rfl, h 7 rfl rfl, h 8 rfl rfl, h 12 rfl rfl, h 13 rfl rfl, h 14 rfl rfl, h 15 rfl rfl, h 16 rfl rfl]
  exact hf
theorem INVp_eq {M M' : MS} (hp : INVp M) (h : ∀ k, rob k = false → cnr k = false → M' k = M k) : INVp M' := by
  obtain ⟨a1, a2, a3, a4, a5, a6, a7, a8, a9, a10⟩ := eqN h
  unfold INVp at *
  rw [a3, a4, a6, a10, h 34 rfl rfl, h 35 rfl rfl, h 36 rfl rfl]
  exact hp
/-- a step of one robot -/
theorem INV_upd {B : Nat} {M M' : MS} {r : Nat} (hI : INV B M) (ho : offR M M' r) (hk : okR M' r)
    (hd : ∀ q, q < nR M → q ≠ r → M 18 q ≠ M' 18 r) (hl : M' 21 r = -1 ∨ ∀ q, q < nR M → q ≠ r → M 21 q ≠ M' 21 r)
    (hw : M' 22 r = -1 ∨ ∀ q, q < nR M → q ≠ r → M 22 q ≠ -1 → M 14 (ix (M 22 q)) ≠ M 14 (ix (M' 22 r))) : INV B M' := by
  obtain ⟨hc, ⟨r1, r2, r3, r4⟩, hf, hp⟩ := hI
  obtain ⟨h1, h2⟩ := ho
  have hn : nR M' = nR M := (eqN h1).1
  refine ⟨cnt_eq hc h1, ⟨fun q hq => ?_, fun a b ha hb e => ?_, fun a b ha hb e en => ?_, fun a b ha hb ea eb e => ?_⟩, INVf_eq hf h1, INVp_eq hp h1⟩
  · rw [hn] at hq
    by_cases e : q = r
    · rw [e]; exact hk
    · exact (okR_eq h1 (fun k hc => h2 k q hc e)).mpr (r1 q hq)
  · rw [hn] at ha hb
    by_cases e1 : a = r
    · by_cases e2 : b = r
      · rw [e1, e2]
      · rw [e1, h2 18 b rfl e2] at e
        exact absurd e.symm (hd b hb e2)
    · by_cases e2 : b = r
      · rw [e2, h2 18 a rfl e1] at e
        exact absurd e (hd a ha e1)
      · rw [h2 18 a rfl e1, h2 18 b rfl e2] at e
        exact r2 a b ha hb e
  · rw [hn] at ha hb
    by_cases e1 : a = r
    · by_cases e2 : b = r
      · rw [e1, e2]
      · rcases hl with q | q
        · rw [e1, q] at en; exact absurd rfl en
        · rw [e1, h2 21 b rfl e2] at e
          exact absurd e.symm (q b hb e2)
    · by_cases e2 : b = r
      · rcases hl with q | q
        · rw [e, e2, q] at en; exact absurd rfl en
        · rw [e2, h2 21 a rfl e1] at e
          exact absurd e (q a ha e1)
      · rw [h2 21 a rfl e1] at en
        rw [h2 21 a rfl e1, h2 21 b rfl e2] at e
        exact r3 a b ha hb e en
  · rw [hn] at ha hb
    rw [h1 14 rfl rfl] at e
    by_cases e1 : a = r
    · by_cases e2 : b = r
      · rw [e1, e2]
      · rcases hw with q | q
        · rw [e1, q] at ea; exact absurd rfl ea
        · rw [h2 22 b rfl e2] at e eb
          rw [e1] at e
          exact absurd e.symm (q b hb e2 eb)
    · by_cases e2 : b = r
      · rcases hw with q | q
        · rw [e2, q] at eb; exact absurd rfl eb
        · rw [h2 22 a rfl e1] at e ea
          rw [e2] at e
          exact absurd e (q a ha e1 ea)
      · rw [h2 22 a rfl e1] at e ea
        rw [h2 22 b rfl e2] at e eb
        exact r4 a b ha hb ea eb e
/-- the same where what the robot has stays -/
theorem INV_upd0 {B : Nat} {M M' : MS} {r : Nat} (hI : INV B M) (hr : r < nR M) (ho : offR M M' r) (hk : okR M' r)
    (hd : M' 18 r = M 18 r ∨ ∀ q, q < nR M → q ≠ r → M 18 q ≠ M' 18 r) (hl : M' 21 r = -1 ∨ M' 21 r = M 21 r) (hw : M' 22 r = -1 ∨ M' 22 r = M 22 r) : INV B M' := by
  refine INV_upd hI ho hk (fun q hq e => ?_) ?_ ?_
  · rcases hd with h | h
    · rw [h]; exact fun a => e (hI.r.2.1 q r hq hr a)
    · exact h q hq e
  · rcases hl with h | h
    · exact Or.inl h
    · by_cases hm : M 21 r = -1
      · exact Or.inl (h.trans hm)
      · right
        intro q hq e a
        rw [h] at a
        exact e (hI.r.2.2.1 q r hq hr a (by rw [a]; exact hm))
  · rcases hw with h | h
    · exact Or.inl h
    · by_cases hm : M 22 r = -1
      · exact Or.inl (h.trans hm)
      · right
        intro q hq e a b
        rw [h] at b
        exact e (hI.r.2.2.2 q r hq hr a hm b)
theorem upd_s (f : Nat → Int32) (k : Nat) (x : Int32) : upd f k x k = x := if_pos rfl
theorem upd_n (f : Nat → Int32) {k j : Nat} (x : Int32) (h : j ≠ k) : upd f k x j = f j := if_neg h
/-- rows of a robot behind 'becomes' -/
theorem bec_off (M : MS) (r : Nat) (st : Int32) : offR M (becF M r st) r := ((((offR.rf.set rfl).set rfl).set rfl).set rfl).set rfl
theorem bec_18 (M : MS) (r : Nat) (st : Int32) : becF M r st 18 = M 18 := rfl
theorem bec_20 (M : MS) (r : Nat) (st : Int32) : becF M r st 20 r = st := upd_s _ _ _
theorem bec_21 (M : MS) (r : Nat) (st : Int32) : becF M r st 21 r = if st = 0 then -1 else M 21 r := upd_s _ _ _
theorem bec_22 (M : MS) (r : Nat) (st : Int32) : becF M r st 22 r = if st = 1 ∨ st = 2 ∨ st = 3 then M 22 r else -1 := upd_s _ _ _
theorem bec_23 (M : MS) (r : Nat) (st : Int32) : becF M r st 23 r = -1 := upd_s _ _ _
theorem bec_24 (M : MS) (r : Nat) (st : Int32) : becF M r st 24 r = -1 := upd_s _ _ _
theorem okR_of {M M' : MS} {r : Nat} (h1 : ∀ k, rob k = false → cnr k = false → M' k = M k) (hc : isC (M' 18 r)) (hs : okS M' r) (ha : M' 24 r = -1 ∨ (isC (M' 24 r) ∧ (M' 20 r = 1 ∨ M' 20 r = 2 ∨ M' 20 r = 4))) (hv : M' 23 r = -1 ∨ isC (M' 23 r)) : okR M' r := ⟨hc, hs, ha, hv⟩
theorem okS_eq {M M' : MS} {r : Nat} (h1 : ∀ k, rob k = false → cnr k = false → M' k = M k) (e20 : M' 20 r = M 20 r) (e21 : M' 21 r = M 21 r) (e22 : M' 22 r = M 22 r) : okS M' r ↔ okS M r := by
  obtain ⟨a1, a2, a3, a4, a5, a6, a7, a8, a9, a10⟩ := eqN h1
  unfold okS
  rw [e20, e21, e22, a2, a3, a9, h1 13 rfl rfl, h1 14 rfl rfl]
/-- becomes: to IDLE, to RETURNING, to DEAD, or a step forward -/
theorem INV_bec0 {B : Nat} {M : MS} {r : Nat} (hI : INV B M) (hr : r < nR M) : INV B (becF M r 0) := by
  refine INV_upd0 hI hr (bec_off M r 0) ⟨(hI.r.1 r hr).1, Or.inl ⟨bec_20 .., ?_, ?_⟩, Or.inl (bec_24 ..), Or.inl (bec_23 ..)⟩ (Or.inl rfl) (Or.inl ?_) (Or.inl ?_)
  all_goals first | (rw [bec_21]; rfl) | (rw [bec_22]; rfl)
theorem INV_bec4 {B : Nat} {M : MS} {r : Nat} (hI : INV B M) (hr : r < nR M) (ht : ∃ t, t < nT M ∧ M 21 r = nI t) : INV B (becF M r 4) := by
  refine INV_upd0 hI hr (bec_off M r 4) ⟨(hI.r.1 r hr).1, Or.inr (Or.inr (Or.inl ⟨bec_20 .., ?_, ?_⟩)), Or.inl (bec_24 ..), Or.inl (bec_23 ..)⟩ (Or.inl rfl) (Or.inr ?_) (Or.inl ?_)
  · rw [bec_21, if_neg (by decide), (eqN (bec_off M r 4).1).2.2.1]; exact ht
  · rw [bec_22]; rfl
  · rw [bec_21]; rfl
  · rw [bec_22]; rfl
theorem INV_bec5 {B : Nat} {M : MS} {r : Nat} (hI : INV B M) (hr : r < nR M) (ht : M 21 r = -1 ∨ ∃ t, t < nT M ∧ M 21 r = nI t) : INV B (becF M r 5) := by
  refine INV_upd0 hI hr (bec_off M r 5) ⟨(hI.r.1 r hr).1, Or.inr (Or.inr (Or.inr ⟨bec_20 .., ?_, ?_⟩)), Or.inl (bec_24 ..), Or.inl (bec_23 ..)⟩ (Or.inl rfl) (Or.inr ?_) (Or.inl ?_)
  · rw [bec_21, if_neg (by decide), (eqN (bec_off M r 5).1).2.2.1]; exact ht
  · rw [bec_22]; rfl
  · rw [bec_21]; rfl
  · rw [bec_22]; rfl
theorem INV_becW {B : Nat} {M : MS} {r : Nat} {st : Int32} (hI : INV B M) (hr : r < nR M) (hst : st = 2 ∨ st = 3) (hw : M 20 r = 1 ∨ M 20 r = 2 ∨ M 20 r = 3) : INV B (becF M r st) := by
  have hs0 : ¬ st = 0 := by rcases hst with rfl | rfl <;> decide
  have hs1 : st = 1 ∨ st = 2 ∨ st = 3 := Or.inr hst
  have hk : okS (becF M r st) r := by
    have h := (hI.r.1 r hr).2.1
    have e := eqN (bec_off M r st).1
    rcases h with h | h | h | h
    · rw [h.1] at hw; exact absurd hw (by decide)
    · refine Or.inr (Or.inl ⟨by rw [bec_20]; exact hs1, ?_, ?_⟩)
      · rw [bec_21, if_neg hs0, e.2.2.1]; exact h.2.1
      · obtain ⟨-, -, k, s, n, a1, a2, a3, a4, a5⟩ := h
        exact ⟨k, s, n, by rw [e.2.2.2.2.2.2.2.2.1]; exact a1, by rw [bec_22, if_pos hs1]; exact a2, by rw [e.2.1]; exact a3, a4, a5⟩
    · rw [h.1] at hw; exact absurd hw (by decide)
    · rw [h.1] at hw; exact absurd hw (by decide)
  exact INV_upd0 hI hr (bec_off M r st) ⟨(hI.r.1 r hr).1, hk, Or.inl (bec_24 ..), Or.inl (bec_23 ..)⟩ (Or.inl rfl) (Or.inr (by rw [bec_21, if_neg hs0])) (Or.inr (by rw [bec_22, if_pos hs1]))
theorem INV_arr {B : Nat} {M : MS} {r : Nat} (hI : INV B M) (hr : r < nR M) : INV B (arrF M r) := by
  unfold arrF
  split
  · rename_i hg
    have hn : ¬ goalV M r = -1 := by
      rw [hg]
      obtain ⟨j, hj, e⟩ := (hI.r.1 r hr).1
      rw [e]; exact nI_m1 (by omega)
    rcases goalV_s hn with h | h | h
    · rw [if_pos h]; exact INV_becW hI hr (Or.inl rfl) (Or.inl h)
    · rw [if_neg (by rw [h]; decide), if_pos h]; exact INV_becW hI hr (Or.inr rfl) (Or.inr (Or.inl h))
    · rw [if_neg (by rw [h]; decide), if_neg (by rw [h]; decide)]; exact INV_bec0 hI hr
  · exact hI
theorem nearV_c {M : MS} {x : Int32} {g c : Nat} (hc : c < 64) : nearV M x g c = -1 ∨ isC (nearV M x g c) := by
  unfold nearV
  cases h : nrst (dS (frX M x) g) c with
  | none => exact Or.inl rfl
  | some p => exact Or.inr ⟨p.1, (bst_nb hc (Nat.le_refl 4) h).1, rfl⟩
theorem ask_off (M : MS) (r : Nat) : offR M (askF M r) r := by
  unfold askF
  split
  · dsimp only
    split
    · exact ((((offR.rf.set rfl).set rfl).set rfl).set rfl).set rfl
    · exact ((offR.rf.set rfl).set rfl).set rfl
  · exact offR.rf.set rfl
theorem INV_ask {B : Nat} {M : MS} {r : Nat} (hI : INV B M) (hr : r < nR M) : INV B (askF M r) := by
  have hk := hI.r.1 r hr
  obtain ⟨jc, hjc, ec⟩ := hk.1
  have hix : ix (M 18 r) < 64 := by rw [ec, ix_nI (by omega)]; exact hjc
  have hs : ∀ k, k = 18 ∨ k = 20 ∨ k = 21 ∨ k = 22 → askF M r k = M k := by
    intro k hk4
    have h24 : k ≠ 24 := by omega
    have h23 : k ≠ 23 := by omega
    have h25 : k ≠ 25 := by omega
    unfold askF
    split
    · dsimp only
      split
      · rw [mset_n _ _ _ h25, mset_n _ _ _ h24, mset_n _ _ _ h23, mset_n _ _ _ h24, mset_n _ _ _ h24]
      · rw [mset_n _ _ _ h25, mset_n _ _ _ h24, mset_n _ _ _ h24]
    · rw [mset_n _ _ _ h24]
  have e18 := hs 18 (by omega)
  have e20 := hs 20 (by omega)
  have e21 := hs 21 (by omega)
  have e22 := hs 22 (by omega)
  have ha : askF M r 24 r = -1 ∨ (isC (askF M r 24 r) ∧ (M 20 r = 1 ∨ M 20 r = 2 ∨ M 20 r = 4)) := by
    unfold askF
    split
    · rename_i hc
      dsimp only
      have hst := goalV_s hc.1
      split
      · rw [mset_n _ _ _ (by decide), mset_s, upd_s]
        rcases nearV_c hix with q | q
        · exact Or.inl q
        · exact Or.inr ⟨q, hst⟩
      · rw [mset_n _ _ _ (by decide), mset_s, upd_s]
        rcases nearV_c hix with q | q
        · exact Or.inl q
        · exact Or.inr ⟨q, hst⟩
    · rw [mset_s, upd_s]; exact Or.inl rfl
  have hv : askF M r 23 r = -1 ∨ isC (askF M r 23 r) := by
    unfold askF
    split
    · dsimp only
      split
      · rw [mset_n _ _ _ (by decide), mset_n _ _ _ (by decide), mset_s, upd_s]; exact Or.inl rfl
      · rw [mset_n _ _ _ (by decide), mset_n _ _ _ (by decide), mset_n _ _ _ (by decide)]; exact hk.2.2.2
    · rw [mset_n _ _ _ (by decide)]; exact hk.2.2.2
  refine INV_upd0 hI hr (ask_off M r) ⟨by rw [e18]; exact hk.1, (okS_eq (ask_off M r).1 (by rw [e20]) (by rw [e21]) (by rw [e22])).mpr hk.2.1, by rw [e20]; exact ha, hv⟩ (Or.inl (by rw [e18])) (Or.inr (by rw [e21])) (Or.inr (by rw [e22]))
theorem mv_off (M : MS) (r : Nat) (x : Int32) : offR M (mvF M r x) r := (((offR.rf.set rfl).set rfl).set rfl).cn rfl
theorem INV_mv {B : Nat} {M : MS} {r : Nat} {x : Int32} (hI : INV B M) (hr : r < nR M) (hx : isC x) (hno : rbA M x = none) : INV B (mvF M r x) := by
  have hk := hI.r.1 r hr
  refine INV_upd0 hI hr (mv_off M r x) ⟨?_, (okS_eq (mv_off M r x).1 rfl rfl rfl).mpr hk.2.1, Or.inl ?_, Or.inl ?_⟩ (Or.inr ?_) (Or.inr rfl) (Or.inr rfl)
  · show isC (upd (M 18) r x r); rw [upd_s]; exact hx
  · show upd (M 24) r (-1) r = -1; rw [upd_s]
  · show upd (M 23) r (-1) r = -1; rw [upd_s]
  · intro q hq e
    show M 18 q ≠ upd (M 18) r x r
    rw [upd_s]
    exact lastE_none.mp hno q hq
theorem yld_off (M : MS) (r o : Nat) : offR M (yldG M r o) r := ((offR.rf.set rfl).set rfl).cn rfl
theorem INV_yld {B : Nat} {M : MS} {r o : Nat} (hI : INV B M) (hr : r < nR M) (ho : o < nR M) : INV B (yldG M r o) := by
  have hk := hI.r.1 r hr
  refine INV_upd0 hI hr (yld_off M r o) ⟨hk.1, (okS_eq (yld_off M r o).1 rfl rfl rfl).mpr hk.2.1, Or.inl ?_, Or.inr ?_⟩ (Or.inl rfl) (Or.inr rfl) (Or.inr rfl)
  · show upd (M 24) r (-1) r = -1; rw [upd_s]
  · show isC (upd (M 23) r (M 18 o) r); rw [upd_s]; exact (hI.r.1 o ho).1
theorem INV_cnr {B : Nat} {M : MS} {k : Nat} {v : Int32} (hI : INV B M) (hk : cnr k = true) : INV B (mset M k 0 v) := by
  have h1 : ∀ j, rob j = false → cnr j = false → mset M k 0 v j = M j := fun j _ b => mset_n M 0 v (fun q => by rw [q, hk] at b; cases b)
  have h2 : ∀ j, rob j = true → mset M k 0 v j = M j := fun j b => mset_n M 0 v (fun q => by
    rw [q] at b
    simp only [cnr, Bool.or_eq_true, beq_iff_eq] at hk
    rcases hk with ((rfl | rfl) | rfl) | rfl <;> exact absurd b (by decide))
  obtain ⟨hc, ⟨r1, r2, r3, r4⟩, hf, hp⟩ := hI
  have hn : nR (mset M k 0 v) = nR M := (eqN h1).1
  refine ⟨cnt_eq hc h1, ⟨fun q hq => ?_, fun a b ha hb e => ?_, fun a b ha hb e en => ?_, fun a b ha hb ea eb e => ?_⟩, INVf_eq hf h1, INVp_eq hp h1⟩
  · rw [hn] at hq
    refine (okR_eq h1 (fun j hj => ?_)).mpr (r1 q hq)
    cases hrj : rob j with
    | true => rw [h2 j hrj]
    | false => rw [h1 j hrj hj]
  · rw [hn] at ha hb; rw [h2 18 rfl] at e; exact r2 a b ha hb e
  · rw [hn] at ha hb; rw [h2 21 rfl] at e en; exact r3 a b ha hb e en
  · rw [hn] at ha hb; rw [h2 22 rfl] at ea eb e; rw [h1 14 rfl rfl] at e; exact r4 a b ha hb ea eb e
