/-! A TICK'S STEPS: what they keep -/
def gh (k : Nat) : Bool := k == 0 || k == 15 || k == 16 || k == 25 || k == 26 || k == 27 || k == 32 || k == 33 || k == 38 || k == 39
def cl (M : MS) : MS := fun k => if gh k = true then (fun _ => 0) else M k
theorem WJ_cl {G : gG} {d0 : Nat} {Rf : Nat → Prop} {ja : Nat → Nat → Nat} {M : MS} {E : ES} {H : Heap} : WJ G d0 Rf ja (cl M) E H ↔ WJ G d0 Rf ja M E H := Iff.rfl
/-- rows that the class does not have may be told otherwise -/
theorem WJ.gh {G : gG} {d0 : Nat} {Rf : Nat → Prop} {ja : Nat → Nat → Nat} {M M' : MS} {E : ES} {H : Heap} (hW : WJ G d0 Rf ja M E H) (h : ∀ k, gh k = false → M' k = M k) : WJ G d0 Rf ja M' E H := by
  have e : cl M' = cl M := by
    funext k
    unfold cl
    cases hk : Jvm.Pilot.CShelfSwarmLaw_law_r1023_229280.gh k with
    | true => rfl
    | false => rw [if_neg (fun q => by cases q), if_neg (fun q => by cases q)]; exact h k hk
  rw [← WJ_cl, e, WJ_cl]
  exact hW
def DK (M M' : MS) : Prop := nR M' = nR M ∧ M' 2 = M 2 ∧ M' 3 = M 3 ∧ ∀ r, r < nR M → (M' 20 r = 5 ↔ M 20 r = 5) ∧ (M 20 r = 5 → M' 18 r = M 18 r)
theorem DK.rf {M : MS} : DK M M := ⟨rfl, rfl, rfl, fun _ _ => ⟨Iff.rfl, fun _ => rfl⟩⟩
theorem DK.tr {M M1 M2 : MS} (h : DK M M1) (h2 : DK M1 M2) : DK M M2 := by
  obtain ⟨a1, a2, a3, a4⟩ := h
  obtain ⟨b1, b2, b3, b4⟩ := h2
  refine ⟨b1.trans a1, b2.trans a2, b3.trans a3, fun r hr => ?_⟩
  have x := a4 r hr
  have y := b4 r (by rw [a1]; exact hr)
  exact ⟨y.1.trans x.1, fun q => (y.2 (x.1.mpr q)).trans (x.2 q)⟩
theorem dead_iff {M : MS} (hu : uq18 M) (x : Int32) : (match rbA M x with | none => true | some r => decide (¬ M 20 r = 5)) = true ↔ ∀ r, r < nR M → M 18 r = x → ¬ M 20 r = 5 := by
  cases e : rbA M x with
  | none => exact ⟨fun _ r hr q => absurd q (lastE_none.mp e r hr), fun _ => rfl⟩
  | some k =>
    have hk := lastE_lt e
    constructor
    · intro h r hr q
      have : r = k := hu r k hr hk.1 (q.trans hk.2.symm)
      subst this
      exact of_decide_eq_true h
    · intro h
      exact decide_eq_true (h k hk.1 hk.2)
theorem opnB_iff {M : MS} (hu : uq18 M) (j : Nat) : opnB M j = true ↔ M 2 j = 0 ∧ M 3 j = 0 ∧ ∀ r, r < nR M → M 18 r = nI j → ¬ M 20 r = 5 := by
  unfold opnB
  rw [Bool.and_eq_true, Bool.and_eq_true, decide_eq_true_eq, decide_eq_true_eq]
  exact and_congr Iff.rfl (and_congr Iff.rfl (dead_iff hu (nI j)))
theorem DK.opn {M M' : MS} (hd : DK M M') (h1 : uq18 M) (h2 : uq18 M') (j : Nat) : opnB M' j = opnB M j := by
  obtain ⟨a1, a2, a3, a4⟩ := hd
  rw [Bool.eq_iff_iff, opnB_iff h1, opnB_iff h2, a2, a3, a1]
  constructor
  · rintro ⟨x, y, z⟩
    refine ⟨x, y, fun r hr e q => z r hr ?_ ((a4 r hr).1.mpr q)⟩
    rw [(a4 r hr).2 q]; exact e
  · rintro ⟨x, y, z⟩
    refine ⟨x, y, fun r hr e q => ?_⟩
    have q2 := (a4 r hr).1.mp q
    exact z r hr (by rw [← (a4 r hr).2 q2]; exact e) q2
theorem DK.hD {M M' : MS} {E E' : ES} (hd : DK M M') (h1 : uq18 M) (h2 : uq18 M') (he : eD E' = eD E) (h : hD_ M E) : hD_ M' E' := fun q hq => by
  rw [hd.opn h1 h2 q, ← h q hq]
  unfold opE
  rw [hd.2.1, hd.2.2.1, he]
theorem DK_one {M M' : MS} {r : Nat} (ho : offR M M' r) (h1 : ¬ M 20 r = 5) (h2 : ¬ M' 20 r = 5) : DK M M' := by
  refine ⟨by unfold nR; rw [ho.1 17 rfl rfl], ho.1 2 rfl rfl, ho.1 3 rfl rfl, fun q hq => ?_⟩
  by_cases e : q = r
  · subst e
    exact ⟨⟨fun z => absurd z h2, fun z => absurd z h1⟩, fun z => absurd z h1⟩
  · rw [ho.2 20 q rfl e, ho.2 18 q rfl e]
    exact ⟨Iff.rfl, fun _ => rfl⟩
theorem DK_rows {M M' : MS} (h17 : M' 17 = M 17) (h2 : M' 2 = M 2) (h3 : M' 3 = M 3) (h20 : M' 20 = M 20) (h18 : ∀ r, r < nR M → M 20 r = 5 → M' 18 r = M 18 r) : DK M M' :=
  ⟨by unfold nR; rw [h17], h2, h3, fun q hq => ⟨by rw [h20], h18 q hq⟩⟩
theorem itR_DK {B N : Nat} {f : MS → Nat → MS} {M : MS} (hI : INV B M) (hf : ∀ M' r, INV B M' → kpt M M' → r < N → INV B (f M' r) ∧ kpt M' (f M' r)) (hd : ∀ M' r, INV B M' → kpt M M' → r < N → DK M' (f M' r)) : ∀ n, n ≤ N → DK M (itR f n M)
  | 0, _ => DK.rf
  | n + 1, h => by
    have a := itR_INV hI hf n (by omega)
    exact (itR_DK hI hf hd n (by omega)).tr (hd _ n a.1 a.2 (by omega))
def EK (E E' : ES) : Prop := eR E' = eR E ∧ eD E' = eD E ∧ (∀ i, 7 ≤ i → eN E' i = eN E i ∧ eL E' i = eL E i) ∧ ∀ i, ¬ i = 5 → ¬ i = 6 → ¬ i = 3 → eC E' i = eC E i
theorem EK.rf {E : ES} : EK E E := ⟨rfl, rfl, fun _ _ => ⟨rfl, rfl⟩, fun _ _ _ _ => rfl⟩
theorem EK.tr {E E1 E2 : ES} (h : EK E E1) (h2 : EK E1 E2) : EK E E2 :=
  ⟨h2.1.trans h.1, h2.2.1.trans h.2.1, fun i hi => ⟨(h2.2.2.1 i hi).1.trans (h.2.2.1 i hi).1, (h2.2.2.1 i hi).2.trans (h.2.2.1 i hi).2⟩, fun i a b c => (h2.2.2.2 i a b c).trans (h.2.2.2 i a b c)⟩
def AS (M : MS) (E : ES) : Prop := ∀ r, r < nR M → ¬ M 24 r = -1 → eS E r = M 25 r
theorem INV.u18 {B : Nat} {M : MS} (h : INV B M) : uq18 M := h.r.2.1
theorem INV.u21 {B : Nat} {M : MS} (h : INV B M) : uq21 M := h.r.2.2.1
theorem INV.u22 {B : Nat} {M : MS} (h : INV B M) : uq22 M := uq22_of h.r
/-- on its way: its goal -/
theorem gol_way {B : Nat} {M : MS} (hI : INV B M) {r : Nat} (hr : r < nR M) (h : M 20 r = 1 ∨ M 20 r = 2 ∨ M 20 r = 4) : gol M r = goalV M r := by
  have h3 := hI.c.S3
  have h16 := hI.c.T16
  have hk := (hI.r.1 r hr).2.1
  rcases h with q | q | q
  · have g2 : goalV M r = M 7 (ix (M 21 r)) := by unfold goalV; rw [if_neg (by rw [q]; decide), if_pos (Or.inl q)]
    rw [g2]; unfold gol; rw [if_pos (Or.inl q)]
    rcases hk with z | z | z | z
    · rw [z.1] at q; exact absurd q (by decide)
    · obtain ⟨-, ⟨t, ht, e⟩, -⟩ := z; exact if_neg (by rw [e]; exact nI_m1 (by omega))
    · rw [z.1] at q; exact absurd q (by decide)
    · rw [z.1] at q; exact absurd q (by decide)
  · have g2 : goalV M r = M 5 (ix (M 14 (ix (M 22 r)))) := by unfold goalV; rw [if_pos q]
    rw [g2]; unfold gol; rw [if_neg (by rw [q]; decide)]
    rcases hk with z | z | z | z
    · rw [z.1] at q; exact absurd q (by decide)
    · obtain ⟨-, -, k, s, n, hv, e22, hs, e14, -⟩ := z
      have := VL_lt hI.c hv
      rw [e22, if_neg (nI_m1 (by omega)), ix_nI (by omega), e14, if_neg (nI_m1 (by omega))]
    · rw [z.1] at q; exact absurd q (by decide)
    · rw [z.1] at q; exact absurd q (by decide)
  · have g2 : goalV M r = M 7 (ix (M 21 r)) := by unfold goalV; rw [if_neg (by rw [q]; decide), if_pos (Or.inr q)]
    rw [g2]; unfold gol; rw [if_pos (Or.inr q)]
    rcases hk with z | z | z | z
    · rw [z.1] at q; exact absurd q (by decide)
    · rw [q] at z; exact absurd z.1 (by decide)
    · obtain ⟨-, ⟨t, ht, e⟩, -⟩ := z; exact if_neg (by rw [e]; exact nI_m1 (by omega))
    · rw [z.1] at q; exact absurd q (by decide)
/-- not on its way: where it is said to go -/
theorem gol_not {B : Nat} {M : MS} (hI : INV B M) {r : Nat} (hr : r < nR M) (h : ¬ (M 20 r = 1 ∨ M 20 r = 2 ∨ M 20 r = 4)) : goalV M r = -1 ∧ rgM_ M r = M := by
  have h1 : ¬ M 20 r = 1 := fun q => h (Or.inl q)
  have h2 : ¬ M 20 r = 2 := fun q => h (Or.inr (Or.inl q))
  have h4 : ¬ M 20 r = 4 := fun q => h (Or.inr (Or.inr q))
  constructor
  · unfold goalV; rw [if_neg h2, if_neg (fun q => q.elim h1 h4)]
  · unfold rgM_; rw [if_neg h1, if_neg h2, if_neg h4]
def wnt (M : MS) (r : Nat) : Prop := (M 20 r = 1 ∨ M 20 r = 2 ∨ M 20 r = 4) ∧ ¬ M 18 r = goalV M r
def av1 (M : MS) (r : Nat) : Int32 := M 23 r
noncomputable def wcA (M : MS) (r : Nat) : Int32 := nearV M (M 23 r) (ix (goalV M r)) (ix (M 18 r))
noncomputable def wcB (M : MS) (r : Nat) : Int32 := nearV M (-1) (ix (goalV M r)) (ix (M 18 r))
noncomputable def wcV (M : MS) (r : Nat) : Int32 := @ite _ (wnt M r) (Classical.propDecidable _) (if wcA M r = -1 ∧ ¬ M 23 r = -1 then wcB M r else wcA M r) (-1)
noncomputable def wcM (M : MS) (r : Nat) : MS := @ite _ (wnt M r ∧ (wcA M r = -1 ∧ ¬ M 23 r = -1)) (Classical.propDecidable _) (mset M 23 r (-1)) M
theorem wnt_iff {B : Nat} {M : MS} (hI : INV B M) {r : Nat} (hr : r < nR M) : wnt M r ↔ ¬ goalV M r = -1 ∧ ¬ goalV M r = M 18 r := by
  constructor
  · rintro ⟨a, b⟩
    obtain ⟨j, hj, e⟩ := goalV_isC hI hr a
    exact ⟨by rw [e]; exact nI_m1 (by omega), fun q => b q.symm⟩
  · rintro ⟨a, b⟩
    exact ⟨goalV_s a, fun q => b q.symm⟩
theorem askF_eq (M : MS) (r : Nat) : askF M r = if ¬ goalV M r = -1 ∧ ¬ goalV M r = M 18 r then (if wcA M r = -1 ∧ ¬ M 23 r = -1 then mset (mset (mset (mset (mset M 24 r (-1)) 24 r (wcA M r)) 23 r (-1)) 24 r (wcB M r)) 25 r (if ¬ wcB M r = -1 ∧ wcB M r = M 24 r then M 25 r else M 1 0)
    else mset (mset (mset M 24 r (-1)) 24 r (wcA M r)) 25 r (if ¬ wcA M r = -1 ∧ wcA M r = M 24 r then M 25 r else M 1 0)) else mset M 24 r (-1) := rfl
theorem upd_upd (f : Nat → Int32) (r : Nat) (a b : Int32) : upd (upd f r a) r b = upd f r b := by
  funext q
  unfold upd
  split <;> rfl
theorem ask_cl {B : Nat} {M : MS} (hI : INV B M) {r : Nat} (hr : r < nR M) : ∀ k, gh k = false → askF M r k = mset (wcM M r) 24 r (wcV M r) k := by
  intro k hk
  have h25 : k ≠ 25 := fun q => by rw [q] at hk; cases hk
  by_cases h : wnt M r
  · by_cases h2 : wcA M r = -1 ∧ ¬ M 23 r = -1
    · have hm : wcM M r = mset M 23 r (-1) := by unfold wcM; exact if_pos ⟨h, h2⟩
      have hv : wcV M r = wcB M r := by unfold wcV; rw [if_pos h]; exact if_pos h2
      rw [askF_eq, if_pos ((wnt_iff hI hr).mp h), if_pos h2, hm, hv, mset_n _ _ _ h25]
      by_cases a : k = 24
      · subst a
        rw [mset_s, mset_s, mset_n _ _ _ (by decide), mset_s, mset_s, upd_upd, upd_upd, mset_n _ _ _ (by decide)]
      · rw [mset_n _ _ _ a, mset_n _ _ _ a]
        by_cases b : k = 23
        · subst b; rw [mset_s, mset_s, mset_n _ _ _ a, mset_n _ _ _ a]
        · rw [mset_n _ _ _ b, mset_n _ _ _ b, mset_n _ _ _ a, mset_n _ _ _ a]
    · have hm : wcM M r = M := by unfold wcM; exact if_neg (fun q => h2 q.2)
      have hv : wcV M r = wcA M r := by unfold wcV; rw [if_pos h]; exact if_neg h2
      rw [askF_eq, if_pos ((wnt_iff hI hr).mp h), if_neg h2, hm, hv, mset_n _ _ _ h25]
      by_cases a : k = 24
      · subst a
        rw [mset_s, mset_s, mset_s, upd_upd]
      · rw [mset_n _ _ _ a, mset_n _ _ _ a, mset_n _ _ _ a]
  · have hm : wcM M r = M := by unfold wcM; exact if_neg (fun q => h q.1)
    have hv : wcV M r = -1 := by unfold wcV; exact if_neg h
    rw [askF_eq, if_neg (fun q => h ((wnt_iff hI hr).mpr q)), hm, hv]
theorem ask_row {M : MS} {r k : Nat} (h3 : k ≠ 23) (h4 : k ≠ 24) (h5 : k ≠ 25) : askF M r k = M k := by
  unfold askF
  split
  · dsimp only
    split
    · rw [mset_n _ _ _ h5, mset_n _ _ _ h4, mset_n _ _ _ h3, mset_n _ _ _ h4, mset_n _ _ _ h4]
    · rw [mset_n _ _ _ h5, mset_n _ _ _ h4, mset_n _ _ _ h4]
  · rw [mset_n _ _ _ h4]
theorem DK_ask (M : MS) (r : Nat) : DK M (askF M r) := DK_rows (ask_row (by decide) (by decide) (by decide)) (ask_row (by decide) (by decide) (by decide)) (ask_row (by decide) (by decide) (by decide)) (ask_row (by decide) (by decide) (by decide)) (fun q _ _ => by rw [ask_row (by decide) (by decide) (by decide)])
theorem AS_ask {B : Nat} {M : MS} {E : ES} {t : Int32} (hI : INV B M) {r : Nat} (hr : r < nR M) (h : AS M E) (ht : t = M 1 0) : AS (askF M r) (asE (wcM M r) E r (wcV M r) t) := by
  intro q hq ha
  have e17 : nR (askF M r) = nR M := by unfold nR; rw [ask_row (by decide) (by decide) (by decide)]
  rw [e17] at hq
  have c24 := congrFun (ask_cl hI hr 24 rfl) q
  rw [mset_s] at c24
  have w24 : wcM M r 24 = M 24 := by
    unfold wcM
    by_cases z : wnt M r ∧ (wcA M r = -1 ∧ ¬ M 23 r = -1)
    · rw [if_pos z]; rfl
    · rw [if_neg z]
  by_cases e : q = r
  · subst e
    rw [upd_s] at c24
    rw [c24] at ha
    have hw : wnt M q := Classical.byContradiction (fun z => ha (by unfold wcV; rw [if_neg z]))
    have h25 : askF M q 25 q = if ¬ wcV M q = -1 ∧ wcV M q = M 24 q then M 25 q else M 1 0 := by
      rw [askF_eq]
      unfold wcV
      rw [if_pos ((wnt_iff hI hr).mp hw), if_pos hw]
      by_cases h2 : wcA M q = -1 ∧ ¬ M 23 q = -1
      · rw [if_pos h2, if_pos h2, mset_s, upd_s]
      · rw [if_neg h2, if_neg h2, mset_s, upd_s]
    rw [h25]
    unfold asE
    rw [w24]
    by_cases z : wcV M q = M 24 q
    · rw [if_pos z, if_pos ⟨ha, z⟩]
      exact h q hq (by rw [← z]; exact ha)
    · rw [if_neg z, if_neg (fun y => z y.2)]
      show upd (eS E) q t q = _
      rw [upd_s, ht]
  · have o := (ask_off M r).2
    rw [o 24 q rfl e] at ha
    rw [o 25 q rfl e]
    have := h q hq ha
    unfold asE
    split
    · exact this
    · show upd (eS E) r t q = _
      rw [upd_n _ _ e]; exact this
theorem asE_EK {M : MS} {E : ES} {r : Nat} {x t : Int32} : EK E (asE M E r x t) ∧ eN (asE M E r x t) = eN E ∧ eC (asE M E r x t) = eC E := by
  unfold asE
  split
  · exact ⟨EK.rf, rfl, rfl⟩
  · exact ⟨⟨rfl, rfl, fun _ _ => ⟨rfl, rfl⟩, fun _ _ _ _ => rfl⟩, rfl, rfl⟩
theorem DK_asS {B : Nat} {M : MS} {r : Nat} (hI : INV B M) : DK M (asS M r) := by
  unfold asS
  split
  · rename_i h
    unfold asdF
    split
    · exact DK.rf
    · exact DK_one (mv_off M r _) (by rw [h.1]; decide) (by show ¬ M 20 r = 5; rw [h.1]; decide)
  · exact DK.rf
theorem DK_arr {M : MS} {r : Nat} (hg : ¬ M 18 r = -1) : DK M (arrF M r) := by
  unfold arrF
  split
  · rename_i h
    have hs := goalV_s (M := M) (r := r) (by rw [h]; exact hg)
    refine DK_one (bec_off M r _) ?_ ?_
    · rcases hs with q | q | q <;> rw [q] <;> decide
    · rw [bec_20]
      rcases hs with q | q | q <;> rw [q] <;> decide
  · exact DK.rf
theorem mset_id (M : MS) (k i : Nat) : mset M k i (M k i) = M := by
  funext j
  by_cases e : j = k
  · subst e; rw [mset_s]; funext q; unfold upd; split
    · rename_i h; rw [h]
    · rfl
  · rw [mset_n _ _ _ e]
/-- 'becomes' of the reference, as the class does it -/
theorem bec_bc {M : MS} {r : Nat} {x : Int32} (h22 : (if x = 1 ∨ x = 2 ∨ x = 3 then M 22 r else -1) = M 22 r) (h21 : (if x = 0 then -1 else M 21 r) = M 21 r) : becF M r x = bcM M r x := by
  have e : becF M r x = mset (mset (mset (mset (mset M 20 r x) 23 r (-1)) 24 r (-1)) 22 r (M 22 r)) 21 r (M 21 r) := by unfold becF; rw [h22, h21]
  rw [e]
  unfold bcM
  funext j
  by_cases a : j = 21
  · subst a; rw [mset_s]; show upd (M 21) r (M 21 r) = M 21; funext q; unfold upd; split
    · rename_i h; rw [h]
    · rfl
  · rw [mset_n _ _ _ a]
    by_cases b : j = 22
    · subst b; rw [mset_s]; show upd (M 22) r (M 22 r) = M 22; funext q; unfold upd; split
      · rename_i h; rw [h]
      · rfl
    · rw [mset_n _ _ _ b]
      by_cases c : j = 24
      · subst c; rfl
      · rw [mset_n _ _ _ c]
        by_cases d : j = 23
        · subst d; rfl
        · rw [mset_n _ _ _ d, mset_n _ _ _ d, mset_n _ _ _ c]
theorem bec_set {M : MS} {r : Nat} {x v w : Int32} (h22 : (if x = 1 ∨ x = 2 ∨ x = 3 then M 22 r else -1) = w) (h21 : (if x = 0 then -1 else M 21 r) = v) : becF M r x = bcM (mset (mset M 22 r w) 21 r v) r x := by
  have e : becF M r x = mset (mset (mset (mset (mset M 20 r x) 23 r (-1)) 24 r (-1)) 22 r w) 21 r v := by unfold becF; rw [h22, h21]
  rw [e]
  unfold bcM
  funext j
  by_cases a : j = 21
  · subst a; rfl
  · rw [mset_n _ _ _ a]
    by_cases b : j = 22
    · subst b; rfl
    · rw [mset_n _ _ _ b]
      by_cases c : j = 24
      · subst c; rfl
      · rw [mset_n _ _ _ c]
        by_cases d : j = 23
        · subst d; rfl
        · rw [mset_n _ _ _ d, mset_n _ _ _ d, mset_n _ _ _ c]
          by_cases f : j = 20
          · subst f; rfl
          · rw [mset_n _ _ _ f, mset_n _ _ _ f, mset_n _ _ _ a, mset_n _ _ _ b]
theorem arr_rg {B : Nat} {M : MS} (hI : INV B M) {r : Nat} (hr : r < nR M) (h : gol M r = M 18 r) : rgM_ M r = arrF M r := by
  by_cases hs : M 20 r = 1 ∨ M 20 r = 2 ∨ M 20 r = 4
  · unfold arrF
    rw [if_pos (by rw [← gol_way hI hr hs]; exact h)]
    unfold rgM_
    have hk := (hI.r.1 r hr).2.1
    rcases hs with q | q | q
    · rw [if_pos q, if_pos q]; exact (bec_bc (if_pos (Or.inr (Or.inl rfl))) (if_neg (by decide))).symm
    · rw [if_neg (by rw [q]; decide), if_pos q, if_neg (by rw [q]; decide), if_pos q]; exact (bec_bc (if_pos (Or.inr (Or.inr rfl))) (if_neg (by decide))).symm
    · rw [if_neg (by rw [q]; decide), if_neg (by rw [q]; decide), if_pos q, if_neg (by rw [q]; decide), if_neg (by rw [q]; decide)]
      have h22 : M 22 r = -1 := by
        rcases hk with z | z | z | z
        · rw [z.1] at q; exact absurd q (by decide)
        · rw [q] at z; exact absurd z.1 (by decide)
        · exact z.2.2
        · rw [z.1] at q; exact absurd q (by decide)
      have e := bec_set (M := M) (r := r) (x := 0) (v := -1) (w := M 22 r) (by rw [h22]; decide) (if_pos rfl)
      rw [mset_id] at e
      exact e.symm
  · obtain ⟨a, b⟩ := gol_not hI hr hs
    rw [b]
    unfold arrF
    obtain ⟨j, hj, e⟩ := (hI.r.1 r hr).1
    rw [if_neg (by rw [a, e]; exact fun q => nI_m1 (by omega) q.symm)]
theorem arr_no {B : Nat} {M : MS} (hI : INV B M) {r : Nat} (hr : r < nR M) (h : ¬ M 18 r = gol M r) : M = arrF M r := by
  unfold arrF
  by_cases hs : M 20 r = 1 ∨ M 20 r = 2 ∨ M 20 r = 4
  · rw [if_neg (fun q => h (by rw [gol_way hI hr hs]; exact q.symm))]
  · obtain ⟨a, b⟩ := gol_not hI hr hs
    obtain ⟨j, hj, e⟩ := (hI.r.1 r hr).1
    rw [if_neg (by rw [a, e]; exact fun q => nI_m1 (by omega) q.symm)]
theorem wcM_R (M : MS) (r : Nat) : nR (wcM M r) = nR M := by
  unfold wcM
  by_cases z : wnt M r ∧ (wcA M r = -1 ∧ ¬ M 23 r = -1)
  · rw [if_pos z]; rfl
  · rw [if_neg z]
theorem itR_n (f : MS → Nat → MS) (M : MS) : itR f 0 M = M := rfl
section JCI
variable {p : Program} {l : Launch} {e : Env} {R : Room} {s : State} {m : MethodId} {args : Array Value} {below : List Frame} {meth : Method} {c : Code} {H : Heap} {locs : List Loc} {cells slots : Nat} {Q : State → Prop}
variable {pc : Nat} {ls : Array Slot} {rest st0 : List Value} {a : Array Value} {mc ms : Nat} {G : gG} {d0 : Nat} {Rf : Nat → Prop} {ja : Nat → Nat → Nat} {M' : MS} {E' : ES}
theorem jcl_i {P : Int32 → Unit → Prop} (hr : va_Run p l e R s m args below meth c H locs cells slots mc ms (F0 m pc ls st0) rest (va_Qi (S := Unit) P (fun _ t => WJ G d0 Rf ja M' E' t.heap) (jA Rf) a) (jA Rf)) (hS : va_S (jA Rf) s.heap H locs)
    (kk : ∀ (r : Int32), P r () → ∀ (H1 : Heap) (locs1 : List Loc), WJ G d0 Rf ja M' E' H1 → va_S (jA Rf) s.heap H1 locs1 → W p l e R s m args below meth c H1 locs1 (cells + mc) (slots + ms) Q (F0 m (pc + 3) ls (.int r :: rest))) : W p l e R s m args below meth c H locs cells slots Q (F0 m pc ls st0) :=
  va_calli hr hS (fun _ _ h => h) (fun _ h => h) (fun r u t H1 locs1 ht _ hp hB _ _ hS1 => kk r hp H1 locs1 (by rw [← ht]; exact hB) hS1)
end JCI
set_option maxHeartbeats 4000000 in
set_option maxRecDepth 100000 in
theorem cJ_X0_moveRobot (l : Launch) (G : gG) (d0 mi : Nat) (Rf : Nat → Prop) (ja : Nat → Nat → Nat) (M : MS) (E : ES) (r : Nat) (x : Int32) (h_r : r < nR M) : Met l yX0_moveRobot (wB yX0_moveRobot cX0_moveRobot 3 none) (rmL 2 0 0) (va_Pc [.ref (ja 0 0), .ref (ja 5 r), .int x] (jB G d0 mi Rf ja M E)) (va_Qv (S := Unit) (fun _ => True) (fun _ z9 => WJ G d0 Rf ja (mvF M r x) (E) z9.heap) (jA Rf)) 0 0 (jA Rf) := by
  refine st_N (own := RX0) (by decide +kernel) rfl (Nat.le_of_ble_eq_true rfl) ?_
  intro p e s m below meth c ls args Q hQ hC hr hlk hnm hl hP
  obtain ⟨hW, hX, hRf⟩ := hP
  have hK := hX.1
  have hx := hC.1
  have hb := hC.2.1
  have hl : lv_has ls 3 [(0, .ref (ja 0 0)), (1, .ref (ja 5 r)), (2, .int x)] := hl
  obtain ⟨H, locs, hHe, hLe⟩ : ∃ (H : Heap) (locs : List Loc), H = s.heap ∧ locs = [] := ⟨_, _, rfl, rfl⟩
  rw [← hHe] at hW
  have hS : va_S (jA Rf) s.heap H locs := by rw [hHe, hLe]; exact va_S.rf
  suffices hgo : W p l e (rmL 2 0 0) s m args below meth c H locs 0 0 Q (F0 m 0 ls []) by
    rw [hHe, hLe] at hgo
    exact hgo
  clear hHe hLe
  refine lv_aload_n hx hb dX0_moveRobot_0 rfl (lv_at hl 1 rfl) ?_
  refine lv_iload_n hx hb dX0_moveRobot_1 rfl (lv_at hl 2 rfl) ?_
  refine jcl_v (run_V hC (cJ_X5_moveTo l G d0 mi Rf ja M E r x (show r < nR M from h_r)) (As := [.int x]) (rest := []) rfl rfl ml_X0_82 im_X5_moveTo se_X5_moveTo ini_X5 cd_X5_moveTo ⟨rfl, na_X5_moveTo⟩ jB_blind (hW.recv hK (show jV M 5 r from h_r) rfl) (jB_at hX hRf hW hS) hl.1 (Nat.le_of_ble_eq_true rfl) ⟨Nat.le_of_ble_eq_true rfl, Nat.le_of_ble_eq_true rfl⟩ ⟨Nat.le_refl _, Nat.le_refl _⟩ rfl dX0_moveRobot_2) hS (fun H locs hW hS => ?_)
  refine lv_aload_n hx hb dX0_moveRobot_5 rfl (lv_at hl 0 rfl) ?_
  refine lv_dup hx hb dX0_moveRobot_6 rfl ?_
  refine r1_get hC hK.1 (hW.ob (show jV (mtM M r x) 0 0 from rfl)) lay_X0 rfl 2 (by decide) fl_X0_25 (fun x hx => hx) (v := .int ((mtM M r x) 28 0)) rfl dX0_moveRobot_7 ?_
  refine lv_iconst (v := 1) hx hb dX0_moveRobot_10 (by decide) ?_
  refine lv_iadd hx hb dX0_moveRobot_11 ?_
  refine jp_r28 hC hK hW hS fl_X0_25 dX0_moveRobot_12 (fun H locs hW hS => ?_)
  subst hQ
  rw [show (mset (mtM M r x) 28 0 (((mtM M r x) 28 0) + 1)) = mvF M r x from rfl] at hW
  exact rt_qv () hx hb hr hlk hS (trivial) (fun t ht _ => by show WJ G d0 Rf ja _ _ t.heap; rw [ht]; exact hW) (by show 0 ≤ 0; omega) (by show 0 ≤ 0; omega) dX0_moveRobot_15
set_option maxHeartbeats 4000000 in
set_option maxRecDepth 100000 in
theorem cJ_X0_isAskedFor (l : Launch) (G : gG) (d0 mi : Nat) (Rf : Nat → Prop) (ja : Nat → Nat → Nat) (M : MS) (E : ES) (x : Int32) : Met l yX0_isAskedFor (wB yX0_isAskedFor cX0_isAskedFor 3 (some .boolean)) (rmL 3 0 0) (va_Pc [.ref (ja 0 0), .int x] (jB G d0 mi Rf ja M E)) (k2_QcV (.int (bI (askdB M x)))) 0 0 fN := by
  refine st_N (own := RX0) (by decide +kernel) rfl (Nat.le_of_ble_eq_true rfl) ?_
  intro p e s m below meth c ls args Q hQ hC hr hlk hnm hl hP
  obtain ⟨hW, hX, hRf⟩ := hP
  have hK := hX.1
  have hx := hC.1
  have hb := hC.2.1
  have hl : lv_has ls 3 [(0, .ref (ja 0 0)), (1, .int x)] := hl
  have hS : va_S (jA Rf) s.heap s.heap [] := va_S.rf
  refine lv_iconst (v := 0) hx hb dX0_isAskedFor_0 (by decide) ?_
  refine lv_istore_n (lv' := [(2, .int 0), (0, .ref (ja 0 0)), (1, .int x)]) hx hb dX0_isAskedFor_1 rfl hl (by decide) rfl (fun ls hl => ?_)
  have loop1 : ∀ (n_ : Nat) (i : Nat) (hi : i ≤ nR M) (hno : ∀ k, k < i → decide (M 24 k = x) = false) (ls : Array Slot), nR M - i < n_ → lv_has ls 3 [(2, .int (nI i)), (0, .ref (ja 0 0)), (1, .int x)] → W p l e (rmL 3 0 0) s m args below meth c s.heap [] 0 0 Q (F0 m 2 ls []) := by
    intro n_
    induction n_ with
    | zero => intro i hi hno ls hm hl; omega
    | succ n_ ih1 =>
      intro i hi hno ls hm hl
      have h6 := hW.cnt.R6
      refine lv_iload_n hx hb dX0_isAskedFor_2 rfl (lv_at hl 0 rfl) ?_
      refine lv_aload_n hx hb dX0_isAskedFor_3 rfl (lv_at hl 1 rfl) ?_
      refine r1_get hC hK.1 (hW.ob (show jV M 0 0 from rfl)) lay_X0 rfl 1 (by decide) fl_X0_21 (fun x hx => hx) (v := .ref (ja 10 4)) rfl dX0_isAskedFor_4 ?_
      refine jw_size hC hK hW.1 (i := 4) (Or.inl (by decide)) ml_X0_44 hl.1 (Nat.le_of_ble_eq_true rfl) ⟨Nat.le_of_ble_eq_true rfl, Nat.le_of_ble_eq_true rfl, Nat.le_refl _, Nat.le_refl _⟩ dX0_isAskedFor_7 ?_
      refine top_i (y := nI (nR M)) rfl ?_
      refine ln_ge (tgt := 39) (a := i) (b := (nR M)) hx hb dX0_isAskedFor_10 (by decide) rfl rfl (by omega) (by omega) (fun c_2t => ?_) (fun c_2f => ?_)
      · refine lv_iconst (v := 0) hx hb dX0_isAskedFor_39 (by decide) ?_
        subst hQ
        exact rt_z hx hb hr hlk (bI_0 (by cases h9 : askdB M x with | false => rfl | true => obtain ⟨q, hq1, hq2⟩ := anyB_t.mp h9; rw [hno q (by omega)] at hq2; cases hq2)) dX0_isAskedFor_40
      · refine lv_aload_n hx hb dX0_isAskedFor_13 rfl (lv_at hl 1 rfl) ?_
        refine r1_get hC hK.1 (hW.ob (show jV M 0 0 from rfl)) lay_X0 rfl 1 (by decide) fl_X0_21 (fun x hx => hx) (v := .ref (ja 10 4)) rfl dX0_isAskedFor_14 ?_
        refine lv_iload_n hx hb dX0_isAskedFor_17 rfl (lv_at hl 0 rfl) ?_
        refine jw_get hC hK hW.1 (i := 4) (j := i) (Or.inl (by decide)) (show i < jn M E 4 from (by show i < nR M; omega)) ml_X0_48 hl.1 (Nat.le_of_ble_eq_true rfl) ⟨Nat.le_of_ble_eq_true rfl, Nat.le_of_ble_eq_true rfl, Nat.le_refl _, Nat.le_refl _⟩ dX0_isAskedFor_18 ?_
        refine jw_cast hC hK (hW.ob (show jV M 5 i from (by show i < nR M; omega))) rfl cl_X0_52 dX0_isAskedFor_21 ?_
        refine r1_get hC hK.1 (hW.ob (show jV M 5 i from (by show i < nR M; omega))) lay_X5 rfl 6 (by decide) fl_X0_125 (fun x hx => hx) (v := .int (M 24 i)) rfl dX0_isAskedFor_24 ?_
        refine lv_iload_n hx hb dX0_isAskedFor_27 rfl (lv_at hl 2 rfl) ?_
        refine lv_icmp_ne (tgt := 33) hx hb dX0_isAskedFor_28 (by decide) (fun c_3t => ?_) (fun c_3f => ?_)
        · refine lv_iinc (v := nI (i + 1)) (lv' := [(2, .int (nI (i + 1))), (0, .ref (ja 0 0)), (1, .int x)]) hx hb dX0_isAskedFor_33 hl (k := 0) rfl (nI_inc _) (by decide) rfl (fun ls hl => ?_)
          refine lv_goto (tgt := 2) hx hb dX0_isAskedFor_36 (by decide) ?_
          exact ih1 (i + 1) (by omega) (lt_s hno (decide_eq_false c_3t)) ls (by omega) (lv_sub hl [0, 1, 2] rfl)
        · refine lv_iconst (v := 1) hx hb dX0_isAskedFor_31 (by decide) ?_
          subst hQ
          exact rt_z hx hb hr hlk (bI_1 (anyB_t.mpr ⟨i, by omega, decide_eq_true c_3f⟩)) dX0_isAskedFor_32
  exact loop1 ((nR M - 0) + 1) 0 (Nat.zero_le _) (fun k hk => absurd hk (Nat.not_lt_zero k)) ls (by omega) (lv_sub hl [0, 1, 2] rfl)
set_option maxHeartbeats 4000000 in
set_option maxRecDepth 100000 in
theorem cJ_X0_wantedCell (l : Launch) (G : gG) (d0 mi : Nat) (Rf : Nat → Prop) (ja : Nat → Nat → Nat) (M : MS) (E : ES) (r : Nat) (B : Nat) (h_r : r < nR M) (hI : INV B M) (hD : hD_ M E) : Met l yX0_wantedCell (wB yX0_wantedCell cX0_wantedCell 4 (some .int)) (rmL 3 0 0) (va_Pc [.ref (ja 0 0), .ref (ja 5 r)] (jB G d0 mi Rf ja M E)) (va_Qi (S := Unit) (fun v9 _ => v9 = wcV M r ∧ True) (fun _ z9 => WJ G d0 Rf ja (wcM M r) (E) z9.heap) (jA Rf)) 0 0 (jA Rf) := by
  refine st_N (own := RX0) (by decide +kernel) rfl (Nat.le_of_ble_eq_true rfl) ?_
  intro p e s m below meth c ls args Q hQ hC hr hlk hnm hl hP
  obtain ⟨hW, hX, hRf⟩ := hP
  have hK := hX.1
  have hx := hC.1
  have hb := hC.2.1
  have hl : lv_has ls 4 [(0, .ref (ja 0 0)), (1, .ref (ja 5 r))] := hl
  obtain ⟨H, locs, hHe, hLe⟩ : ∃ (H : Heap) (locs : List Loc), H = s.heap ∧ locs = [] := ⟨_, _, rfl, rfl⟩
  rw [← hHe] at hW
  have hS : va_S (jA Rf) s.heap H locs := by rw [hHe, hLe]; exact va_S.rf
  suffices hgo : W p l e (rmL 3 0 0) s m args below meth c H locs 0 0 Q (F0 m 0 ls []) by
    rw [hHe, hLe] at hgo
    exact hgo
  clear hHe hLe
  refine lv_aload_n hx hb dX0_wantedCell_0 rfl (lv_at hl 1 rfl) ?_
  refine cl_p (run_V hC (cJ_X5_goal l G d0 mi Rf ja M E r (show r < nR M from h_r)) (As := []) (rest := []) rfl rfl ml_X0_94 im_X5_goal se_X5_goal ini_X5 cd_X5_goal ⟨rfl, na_X5_goal⟩ jB_blind (hW.recv hK (show jV M 5 r from h_r) rfl) (jB_at hX hRf hW hS) hl.1 (Nat.le_of_ble_eq_true rfl) ⟨Nat.le_of_ble_eq_true rfl, Nat.le_of_ble_eq_true rfl⟩ ⟨Nat.le_refl _, Nat.le_refl _⟩ rfl dX0_wantedCell_1) ?_
  refine lv_istore_n (lv' := [(2, .int (gol M r)), (0, .ref (ja 0 0)), (1, .ref (ja 5 r))]) hx hb dX0_wantedCell_4 rfl hl (by decide) rfl (fun ls hl => ?_)
  refine lv_aload_n hx hb dX0_wantedCell_5 rfl (lv_at hl 2 rfl) ?_
  refine cl_p (run_V hC (cJ_X5_isOnItsWay l G d0 mi Rf ja M E r (show r < nR M from h_r)) (As := []) (rest := []) rfl rfl ml_X0_97 im_X5_isOnItsWay se_X5_isOnItsWay ini_X5 cd_X5_isOnItsWay ⟨rfl, na_X5_isOnItsWay⟩ jB_blind (hW.recv hK (show jV M 5 r from h_r) rfl) (jB_at hX hRf hW hS) hl.1 (Nat.le_of_ble_eq_true rfl) ⟨Nat.le_of_ble_eq_true rfl, Nat.le_of_ble_eq_true rfl⟩ ⟨Nat.le_refl _, Nat.le_refl _⟩ rfl dX0_wantedCell_6) ?_
  refine lb_eq (tgt := 20) (b := (decide (M 20 r = 1 ∨ M 20 r = 2 ∨ M 20 r = 4))) hx hb dX0_wantedCell_9 (by decide) (fun c_1t => ?_) (fun c_1f => ?_)
  · refine lv_iconst (v := (-1)) hx hb dX0_wantedCell_20 (by decide) ?_
    subst hQ
    rw [show M = wcM M r from (if_neg (fun q => absurd (decide_eq_true q.1.1) (by rw [c_1t]; decide))).symm] at hW
    exact rt_qi () hx hb hr hlk hS ⟨(by unfold wcV; exact (if_neg (fun q => absurd (decide_eq_true q.1) (by rw [c_1t]; decide))).symm), trivial⟩ (fun t ht _ => by show WJ G d0 Rf ja _ _ t.heap; rw [ht]; exact hW) (by show 0 ≤ 0; omega) (by show 0 ≤ 0; omega) dX0_wantedCell_21
  · have hway : M 20 r = 1 ∨ M 20 r = 2 ∨ M 20 r = 4 := of_decide_eq_true c_1f
    obtain ⟨g, hg, eg⟩ := goalV_isC hI h_r hway
    obtain ⟨c0, hc0, ec⟩ := (hI.r.1 r h_r).1
    have hgg : gol M r = nI g := (gol_way hI h_r hway).trans eg
    rw [hgg] at hl
    refine lv_aload_n hx hb dX0_wantedCell_12 rfl (lv_at hl 2 rfl) ?_
    refine r1_get hC hK.1 (hW.ob (show jV M 5 r from h_r)) lay_X5 rfl 2 (by decide) fl_X0_54 (fun x hx => hx) (v := .int (nI c0)) (congrArg (fun z => some (Value.int z)) ec) dX0_wantedCell_13 ?_
    refine lv_iload_n hx hb dX0_wantedCell_16 rfl (lv_at hl 0 rfl) ?_
    refine ln_ne (tgt := 22) (a := c0) (b := g) hx hb dX0_wantedCell_17 (by decide) rfl rfl (by omega) (by omega) (fun c_2t => ?_) (fun c_2f => ?_)
    · have hne := c_2t
      have hA : wcA M r = nearV M (M 23 r) g c0 := by unfold wcA; rw [eg, ec, ix_nI (by omega), ix_nI (by omega)]
      have hB9 : wcB M r = nearV M (-1) g c0 := by unfold wcB; rw [eg, ec, ix_nI (by omega), ix_nI (by omega)]
      refine lv_aload_n hx hb dX0_wantedCell_22 rfl (lv_at hl 1 rfl) ?_
      refine r1_get hC hK.1 (hW.ob (show jV M 0 0 from rfl)) lay_X0 rfl 0 (by decide) fl_X0_12 (fun x hx => hx) (v := .ref (ja 1 0)) rfl dX0_wantedCell_23 ?_
      refine lv_aload_n hx hb dX0_wantedCell_26 rfl (lv_at hl 2 rfl) ?_
      refine r1_get hC hK.1 (hW.ob (show jV M 5 r from h_r)) lay_X5 rfl 2 (by decide) fl_X0_54 (fun x hx => hx) (v := .int (nI c0)) (congrArg (fun z => some (Value.int z)) ec) dX0_wantedCell_27 ?_
      refine lv_iload_n hx hb dX0_wantedCell_30 rfl (lv_at hl 0 rfl) ?_
      refine lv_aload_n hx hb dX0_wantedCell_31 rfl (lv_at hl 2 rfl) ?_
      refine r1_get hC hK.1 (hW.ob (show jV M 5 r from h_r)) lay_X5 rfl 8 (by decide) fl_X0_101 (fun x hx => hx) (v := .int (M 23 r)) rfl dX0_wantedCell_32 ?_
      refine cl_pi (x := nearV M (M 23 r) g c0) (run_V hC (cJ_X1_nextCell l G d0 mi Rf ja M E c0 g (M 23 r) (by omega) (by omega)) (As := [.int (nI c0), .int (nI g), .int (M 23 r)]) (rest := []) rfl rfl ml_X0_104 im_X1_nextCell se_X1_nextCell ini_X1 cd_X1_nextCell ⟨rfl, na_X1_nextCell⟩ jB_blind (hW.recv hK (show jV M 1 0 from rfl) rfl) (jB_at hX hRf hW hS) hl.1 (Nat.le_of_ble_eq_true rfl) ⟨Nat.le_of_ble_eq_true rfl, Nat.le_of_ble_eq_true rfl⟩ ⟨Nat.le_refl _, Nat.le_refl _⟩ rfl dX0_wantedCell_35) (nxV_X (M := M) hD (M 23 r) hc0 hg) ?_
      refine lv_istore_n (lv' := [(3, .int (nearV M (M 23 r) g c0)), (2, .int (nI g)), (0, .ref (ja 0 0)), (1, .ref (ja 5 r))]) hx hb dX0_wantedCell_38 rfl hl (by decide) rfl (fun ls hl => ?_)
      refine lv_iload_n hx hb dX0_wantedCell_39 rfl (lv_at hl 0 rfl) ?_
      refine lv_iconst (v := (-1)) hx hb dX0_wantedCell_40 (by decide) ?_
      refine lv_icmp_ne (tgt := 71) hx hb dX0_wantedCell_41 (by decide) (fun c_3t => ?_) (fun c_3f => ?_)
      · refine lv_iload_n hx hb dX0_wantedCell_71 rfl (lv_at hl 0 rfl) ?_
        subst hQ
        rw [show M = wcM M r from (if_neg (fun q => c_3t (hA.symm.trans q.2.1))).symm] at hW
        exact rt_qi () hx hb hr hlk hS ⟨(by unfold wcV; rw [if_pos (show wnt M r from ⟨hway, by rw [ec, eg]; exact fun q => hne ((nI_eq (by omega) (by omega)).mp q)⟩), if_neg (fun q => c_3t (hA.symm.trans q.1))]; exact hA.symm), trivial⟩ (fun t ht _ => by show WJ G d0 Rf ja _ _ t.heap; rw [ht]; exact hW) (by show 0 ≤ 0; omega) (by show 0 ≤ 0; omega) dX0_wantedCell_72
      · have ha1 := hA.trans c_3f
        refine lv_aload_n hx hb dX0_wantedCell_44 rfl (lv_at hl 3 rfl) ?_
        refine r1_get hC hK.1 (hW.ob (show jV M 5 r from h_r)) lay_X5 rfl 8 (by decide) fl_X0_101 (fun x hx => hx) (v := .int (M 23 r)) rfl dX0_wantedCell_45 ?_
        refine lv_iconst (v := (-1)) hx hb dX0_wantedCell_48 (by decide) ?_
        refine lv_icmp_eq (tgt := 71) hx hb dX0_wantedCell_49 (by decide) (fun c_4t => ?_) (fun c_4f => ?_)
        · refine lv_iload_n hx hb dX0_wantedCell_71 rfl (lv_at hl 0 rfl) ?_
          subst hQ
          rw [show M = wcM M r from (if_neg (fun q => q.2.2 c_4t)).symm] at hW
          exact rt_qi () hx hb hr hlk hS ⟨(by unfold wcV; rw [if_pos (show wnt M r from ⟨hway, by rw [ec, eg]; exact fun q => hne ((nI_eq (by omega) (by omega)).mp q)⟩), if_neg (fun q => q.2 c_4t)]; exact hA.symm), trivial⟩ (fun t ht _ => by show WJ G d0 Rf ja _ _ t.heap; rw [ht]; exact hW) (by show 0 ≤ 0; omega) (by show 0 ≤ 0; omega) dX0_wantedCell_72
        · refine lv_aload_n hx hb dX0_wantedCell_52 rfl (lv_at hl 3 rfl) ?_
          refine lv_iconst (v := (-1)) hx hb dX0_wantedCell_53 (by decide) ?_
          refine jp_r23 hC hK hW hS (show r < nR M from h_r) fl_X0_101 dX0_wantedCell_54 (fun H locs hW hS => ?_)
          refine lv_aload_n hx hb dX0_wantedCell_57 rfl (lv_at hl 2 rfl) ?_
          refine r1_get hC hK.1 (hW.ob (show jV (mset M 23 r (-1)) 0 0 from rfl)) lay_X0 rfl 0 (by decide) fl_X0_12 (fun x hx => hx) (v := .ref (ja 1 0)) rfl dX0_wantedCell_58 ?_
          refine lv_aload_n hx hb dX0_wantedCell_61 rfl (lv_at hl 3 rfl) ?_
          refine r1_get hC hK.1 (hW.ob (show jV (mset M 23 r (-1)) 5 r from h_r)) lay_X5 rfl 2 (by decide) fl_X0_54 (fun x hx => hx) (v := .int (nI c0)) (congrArg (fun z => some (Value.int z)) ec) dX0_wantedCell_62 ?_
          refine lv_iload_n hx hb dX0_wantedCell_65 rfl (lv_at hl 1 rfl) ?_
          refine lv_iconst (v := (-1)) hx hb dX0_wantedCell_66 (by decide) ?_
          refine cl_pi (x := nearV M (-1) g c0) (run_V hC (cJ_X1_nextCell l G d0 mi Rf ja (mset M 23 r (-1)) E c0 g (-1) (by omega) (by omega)) (As := [.int (nI c0), .int (nI g), .int (-1)]) (rest := []) rfl rfl ml_X0_104 im_X1_nextCell se_X1_nextCell ini_X1 cd_X1_nextCell ⟨rfl, na_X1_nextCell⟩ jB_blind (hW.recv hK (show jV (mset M 23 r (-1)) 1 0 from rfl) rfl) (jB_at hX hRf hW hS) hl.1 (Nat.le_of_ble_eq_true rfl) ⟨Nat.le_of_ble_eq_true rfl, Nat.le_of_ble_eq_true rfl⟩ ⟨Nat.le_refl _, Nat.le_refl _⟩ rfl dX0_wantedCell_67) (nxV_X (M := M) hD (-1) hc0 hg) ?_
          refine lv_istore_n (lv' := [(3, .int (nearV M (-1) g c0)), (2, .int (nI g)), (0, .ref (ja 0 0)), (1, .ref (ja 5 r))]) hx hb dX0_wantedCell_70 rfl hl (by decide) rfl (fun ls hl => ?_)
          refine lv_iload_n hx hb dX0_wantedCell_71 rfl (lv_at hl 0 rfl) ?_
          subst hQ
          rw [show (mset M 23 r (-1)) = wcM M r from (if_pos ⟨⟨hway, by rw [ec, eg]; exact fun q => hne ((nI_eq (by omega) (by omega)).mp q)⟩, ⟨ha1, c_4f⟩⟩).symm] at hW
          exact rt_qi () hx hb hr hlk hS ⟨(by unfold wcV; rw [if_pos (show wnt M r from ⟨hway, by rw [ec, eg]; exact fun q => hne ((nI_eq (by omega) (by omega)).mp q)⟩), if_pos ⟨ha1, c_4f⟩]; exact hB9.symm), trivial⟩ (fun t ht _ => by show WJ G d0 Rf ja _ _ t.heap; rw [ht]; exact hW) (by show 0 ≤ 0; omega) (by show 0 ≤ 0; omega) dX0_wantedCell_72
    · refine lv_iconst (v := (-1)) hx hb dX0_wantedCell_20 (by decide) ?_
      subst hQ
      rw [show M = wcM M r from (if_neg (fun q => q.1.2 (by rw [ec, eg, c_2f]))).symm] at hW
      exact rt_qi () hx hb hr hlk hS ⟨(by unfold wcV; exact (if_neg (fun q => q.2 (by rw [ec, eg, c_2f]))).symm), trivial⟩ (fun t ht _ => by show WJ G d0 Rf ja _ _ t.heap; rw [ht]; exact hW) (by show 0 ≤ 0; omega) (by show 0 ≤ 0; omega) dX0_wantedCell_21
set_option maxHeartbeats 4000000 in
set_option maxRecDepth 100000 in
theorem cJ_X0_askForCells (l : Launch) (G : gG) (d0 mi : Nat) (Rf : Nat → Prop) (ja : Nat → Nat → Nat) (M : MS) (E : ES) (t : Int32) (B : Nat) (hI : INV B M) (hD : hD_ M E) (hA : AS M E) (ht : t = M 1 0) : Met l yX0_askForCells (wB yX0_askForCells cX0_askForCells 4 none) (rmL 4 0 0) (va_Pc [.ref (ja 0 0), .int t] (jB G d0 mi Rf ja M E)) (va_Qv (S := ES) (fun E2 => EK E E2 ∧ eN E2 = eN E ∧ eC E2 = eC E ∧ AS (itR askF (nR M) M) E2) (fun E2 z9 => WJ G d0 Rf ja (itR askF (nR M) M) (E2) z9.heap) (jA Rf)) 0 0 (jA Rf) := by
  refine st_N (own := RX0) (by decide +kernel) rfl (Nat.le_of_ble_eq_true rfl) ?_
  intro p e s m below meth c ls args Q hQ hC hr hlk hnm hl hP
  obtain ⟨hW, hX, hRf⟩ := hP
  have hK := hX.1
  have hx := hC.1
  have hb := hC.2.1
  have hl : lv_has ls 4 [(0, .ref (ja 0 0)), (1, .int t)] := hl
  obtain ⟨H, locs, hHe, hLe⟩ : ∃ (H : Heap) (locs : List Loc), H = s.heap ∧ locs = [] := ⟨_, _, rfl, rfl⟩
  rw [← hHe] at hW
  have hS : va_S (jA Rf) s.heap H locs := by rw [hHe, hLe]; exact va_S.rf
  suffices hgo : W p l e (rmL 4 0 0) s m args below meth c H locs 0 0 Q (F0 m 0 ls []) by
    rw [hHe, hLe] at hgo
    exact hgo
  clear hHe hLe
  refine lv_iconst (v := 0) hx hb dX0_askForCells_0 (by decide) ?_
  refine lv_istore_n (lv' := [(2, .int 0), (0, .ref (ja 0 0)), (1, .int t)]) hx hb dX0_askForCells_1 rfl hl (by decide) rfl (fun ls hl => ?_)
  have loop1 : ∀ (n_ : Nat) (i : Nat) (Mi : MS) (Ei : ES) (H : Heap) (locs : List Loc) (hi : i ≤ nR M) (hMi : Mi = itR askF i M) (hEi : EK E Ei) (hNi : eN Ei = eN E) (hCi : eC Ei = eC E) (hAi : AS Mi Ei) (hW : WJ G d0 Rf ja Mi Ei H) (hS : va_S (jA Rf) s.heap H locs) (ls : Array Slot), nR M - i < n_ → lv_has ls 4 [(2, .int (nI i)), (0, .ref (ja 0 0)), (1, .int t)] → W p l e (rmL 4 0 0) s m args below meth c H locs 0 0 Q (F0 m 2 ls []) := by
    intro n_
    induction n_ with
    | zero => intro i Mi Ei H locs hi hMi hEi hNi hCi hAi hW hS ls hm hl; omega
    | succ n_ ih1 =>
      intro i Mi Ei H locs hi hMi hEi hNi hCi hAi hW hS ls hm hl
      have h6 := hI.c.R6
      obtain ⟨hIi, hki⟩ := itR_INV hI (f := askF) (N := nR M) (fun M1 q a b c => INV_askK a (by rw [b.eR]; exact c)) i hi
      have hdi := itR_DK hI (f := askF) (N := nR M) (fun M1 q a b c => INV_askK a (by rw [b.eR]; exact c)) (fun M1 q _ _ _ => DK_ask M1 q) i hi
      rw [← hMi] at hIi hki hdi
      have hni : nR Mi = nR M := hki.eR
      have hDi : hD_ Mi Ei := hdi.hD hI.u18 hIi.u18 hEi.2.1 hD
      have ht1 : t = Mi 1 0 := by rw [hki 1 rfl]; exact ht
      refine lv_iload_n hx hb dX0_askForCells_2 rfl (lv_at hl 0 rfl) ?_
      refine lv_aload_n hx hb dX0_askForCells_3 rfl (lv_at hl 1 rfl) ?_
      refine r1_get hC hK.1 (hW.ob (show jV Mi 0 0 from rfl)) lay_X0 rfl 1 (by decide) fl_X0_21 (fun x hx => hx) (v := .ref (ja 10 4)) rfl dX0_askForCells_4 ?_
      refine jw_size hC hK hW.1 (i := 4) (Or.inl (by decide)) ml_X0_44 hl.1 (Nat.le_of_ble_eq_true rfl) ⟨Nat.le_of_ble_eq_true rfl, Nat.le_of_ble_eq_true rfl, Nat.le_refl _, Nat.le_refl _⟩ dX0_askForCells_7 ?_
      refine top_i (y := nI (nR Mi)) rfl ?_
      refine ln_ge (tgt := 41) (a := i) (b := (nR Mi)) hx hb dX0_askForCells_10 (by decide) rfl rfl (by omega) (by omega) (fun c_2t => ?_) (fun c_2f => ?_)
      · subst hQ
        rw [show Mi = itR askF (nR M) M from (by rw [hMi, show i = nR M by omega])] at hW
        exact rt_qv Ei hx hb hr hlk hS (⟨hEi, hNi, hCi, by rw [show itR askF (nR M) M = Mi by rw [hMi, show i = nR M by omega]]; exact hAi⟩) (fun t ht _ => by show WJ G d0 Rf ja _ _ t.heap; rw [ht]; exact hW) (by show 0 ≤ 0; omega) (by show 0 ≤ 0; omega) dX0_askForCells_41
      · refine lv_aload_n hx hb dX0_askForCells_13 rfl (lv_at hl 1 rfl) ?_
        refine r1_get hC hK.1 (hW.ob (show jV Mi 0 0 from rfl)) lay_X0 rfl 1 (by decide) fl_X0_21 (fun x hx => hx) (v := .ref (ja 10 4)) rfl dX0_askForCells_14 ?_
        refine lv_iload_n hx hb dX0_askForCells_17 rfl (lv_at hl 0 rfl) ?_
        refine jw_get hC hK hW.1 (i := 4) (j := i) (Or.inl (by decide)) (show i < jn Mi Ei 4 from (by show i < nR Mi; omega)) ml_X0_48 hl.1 (Nat.le_of_ble_eq_true rfl) ⟨Nat.le_of_ble_eq_true rfl, Nat.le_of_ble_eq_true rfl, Nat.le_refl _, Nat.le_refl _⟩ dX0_askForCells_18 ?_
        refine jw_cast hC hK (hW.ob (show jV Mi 5 i from (by show i < nR Mi; omega))) rfl cl_X0_52 dX0_askForCells_21 ?_
        refine lv_astore_n (lv' := [(3, .ref (ja 5 i)), (2, .int (nI i)), (0, .ref (ja 0 0)), (1, .int t)]) hx hb dX0_askForCells_24 rfl hl (by decide) rfl (fun ls hl => ?_)
        refine lv_aload_n hx hb dX0_askForCells_25 rfl (lv_at hl 0 rfl) ?_
        refine lv_aload_n hx hb dX0_askForCells_26 rfl (lv_at hl 2 rfl) ?_
        refine lv_aload_n hx hb dX0_askForCells_27 rfl (lv_at hl 0 rfl) ?_
        refine jcl_i (run_V hC (cJ_X0_wantedCell l G d0 mi Rf ja Mi Ei i B (show i < nR Mi from (by show i < nR Mi; omega)) hIi hDi) (As := [.ref (ja 5 i)]) (rest := [.ref (ja 5 i)]) rfl rfl ml_X0_86 im_X0_wantedCell se_X0_wantedCell ini_X0 cd_X0_wantedCell ⟨rfl, na_X0_wantedCell⟩ jB_blind (hW.recv hK (show jV Mi 0 0 from rfl) rfl) (jB_at hX hRf hW hS) hl.1 (Nat.le_of_ble_eq_true rfl) ⟨Nat.le_of_ble_eq_true rfl, Nat.le_of_ble_eq_true rfl⟩ ⟨Nat.le_refl _, Nat.le_refl _⟩ rfl dX0_askForCells_28) hS (fun r3 hp3 H locs hW hS => ?_)
        refine top_i hp3.1 ?_
        have hnw := wcM_R Mi i
        refine lv_iload_n hx hb dX0_askForCells_31 rfl (lv_at hl 3 rfl) ?_
        refine jcl_v (run_V hC (cJ_X5_askFor l G d0 mi Rf ja (wcM Mi i) Ei i (wcV Mi i) t (show i < nR (wcM Mi i) from (by show i < nR (wcM Mi i); omega))) (As := [.int (wcV Mi i), .int t]) (rest := []) rfl rfl ml_X0_90 im_X5_askFor se_X5_askFor ini_X5 cd_X5_askFor ⟨rfl, na_X5_askFor⟩ jB_blind (hW.recv hK (show jV (wcM Mi i) 5 i from (by show i < nR (wcM Mi i); omega)) rfl) (jB_at hX hRf hW hS) hl.1 (Nat.le_of_ble_eq_true rfl) ⟨Nat.le_of_ble_eq_true rfl, Nat.le_of_ble_eq_true rfl⟩ ⟨Nat.le_refl _, Nat.le_refl _⟩ rfl dX0_askForCells_32) hS (fun H locs hW hS => ?_)
        refine lv_iinc (v := nI (i + 1)) (lv' := [(2, .int (nI (i + 1))), (3, .ref (ja 5 i)), (0, .ref (ja 0 0)), (1, .int t)]) hx hb dX0_askForCells_35 hl (k := 1) rfl (nI_inc _) (by decide) rfl (fun ls hl => ?_)
        refine lv_goto (tgt := 2) hx hb dX0_askForCells_38 (by decide) ?_
        have hW : WJ G d0 Rf ja (askF Mi i) (asE (wcM Mi i) Ei i (wcV Mi i) t) H := hW.gh (ask_cl hIi (by omega))
        obtain ⟨hE1, hN2, hC2⟩ := asE_EK (M := wcM Mi i) (E := Ei) (r := i) (x := wcV Mi i) (t := t)
        have hE2 := hEi.tr hE1
        exact ih1 (i + 1) (askF Mi i) (asE (wcM Mi i) Ei i (wcV Mi i) t) H locs (by omega) (by rw [itR_s, ← hMi]) hE2 (hN2.trans hNi) (hC2.trans hCi) (AS_ask hIi (by omega) hAi ht1) hW hS ls (by omega) (lv_sub hl [0, 2, 3] rfl)
  exact loop1 ((nR M - 0) + 1) 0 M E H locs (Nat.zero_le _) rfl EK.rf rfl rfl hA hW hS ls (by omega) (lv_sub hl [0, 1, 2] rfl)
