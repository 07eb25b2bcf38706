/-! THE CLASS'S OWN NUMBERS AND THE REFERENCE'S, after each public method -/
def ceRow (k : Nat) : Bool := k == 17 || k == 18 || k == 20 || k == 24 || k == 25 || k == 4 || k == 10 || k == 11 || k == 14 || k == 15 || k == 6 || k == 8 || k == 32 || k == 33 || k == 34 || k == 35
theorem DD.rows {M M' : MS} {E E' : ES} (h : DD M E) (h17 : M' 17 = M 17) (h18 : M' 18 = M 18) (h20 : M' 20 = M 20) (e : eD E' = eD E) : DD M' E' := by
  have eR : nR M' = nR M := by unfold nR; rw [h17]
  unfold DD at h ⊢
  rw [eR, h18, h20, e]; exact h
theorem AS.rows {M M' : MS} {E E' : ES} (h : AS M E) (h17 : M' 17 = M 17) (h24 : M' 24 = M 24) (h25 : M' 25 = M 25) (e : eS E' = eS E) : AS M' E' := by
  have eR : nR M' = nR M := by unfold nR; rw [h17]
  unfold AS at h ⊢
  rw [eR, h24, h25, e]; exact h
theorem VL_rows {M M' : MS} (h10 : M' 10 = M 10) (h11 : M' 11 = M 11) : VL M' = VL M := by funext k; unfold VL nO nL; rw [h10, h11]
theorem CL.rows {M M' : MS} {E E' : ES} (h : CL M E) (h4 : M' 4 = M 4) (h10 : M' 10 = M 10) (h11 : M' 11 = M 11) (h14 : M' 14 = M 14) (h15 : M' 15 = M 15) (hE : ∀ i, 7 ≤ i → eN E' i = eN E i ∧ eL E' i = eL E i) : CL M' E' :=
  h.keep (by unfold nS; rw [h4]) (VL_rows h10 h11) h14 h15 hE
theorem CE.cg {M M' : MS} {E : ES} (h : CE M E) (e : ∀ k, ceRow k = true → M' k = M k) : CE M' E :=
  ⟨h.1.rows (e 17 rfl) (e 18 rfl) (e 20 rfl) rfl, h.2.1.rows (e 17 rfl) (e 24 rfl) (e 25 rfl) rfl, h.2.2.1.rows (e 4 rfl) (e 10 rfl) (e 11 rfl) (e 14 rfl) (e 15 rfl) (fun _ _ => ⟨rfl, rfl⟩), h.2.2.2.keep (e 6 rfl) (e 8 rfl) (e 32 rfl) ⟨e 33 rfl, e 34 rfl, e 35 rfl⟩ rfl⟩
theorem CE.set {M : MS} {E : ES} {k j : Nat} {v : Int32} (h : CE M E) (hk : ceRow k = false) : CE (mset M k j v) E := h.cg (fun r hr => mset_n M j v (fun q => by rw [q, hk] at hr; cases hr))
theorem CE_wall {M : MS} {E : ES} {x : Int32} (h : CE M E) : CE (wallF M x) E := by
  unfold wallF thr
  split
  · exact (h.set rfl).set rfl
  · exact h.set rfl
theorem CE_close {M : MS} {E : ES} {x : Int32} {b : Bool} (h : CE M E) : CE (closeF M x b) E := by
  unfold closeF thr
  split
  · exact (h.set rfl).set rfl
  · exact h.set rfl
theorem RC_fill {M : MS} {E : ES} {t g : Nat} {a : Int32} (h : RC M E) (ht : t < nT M) (e8 : M 8 t = nI g) (hg : g < 6) : RC (mset (mset M 9 t (M 9 t + a)) 32 g (M 32 g + a)) (eR_ E (upd (eR E) t (eR E t + a))) := by
  intro g' hg'
  obtain ⟨x, y⟩ := h g' hg'
  refine ⟨?_, ?_⟩
  · show upd (M 32) g (M 32 g + a) g' = sI (rcF (mset (mset M 9 t (M 9 t + a)) 32 g (M 32 g + a)) (eR_ E (upd (eR E) t (eR E t + a))) (nI g')) (nT M)
    by_cases e : g' = g
    · subst e
      rw [upd_s, x]
      refine (sI_up ht (fun i hi hne => ?_) ?_).symm
      · show (if M 8 i = nI g' then upd (eR E) t (eR E t + a) i else 0) = (if M 8 i = nI g' then eR E i else 0)
        rw [upd_n _ _ hne]
      · show (if M 8 t = nI g' then upd (eR E) t (eR E t + a) t else 0) = (if M 8 t = nI g' then eR E t else 0) + a
        rw [if_pos e8, if_pos e8, upd_s]
    · rw [upd_n _ _ e, x]
      refine sI_cg (fun i hi => ?_)
      show (if M 8 i = nI g' then eR E i else 0) = (if M 8 i = nI g' then upd (eR E) t (eR E t + a) i else 0)
      by_cases z : i = t
      · have hn : ¬ M 8 i = nI g' := fun q => e ((nI_eq (by omega) (by omega)).mp (q.symm.trans (by rw [z]; exact e8)))
        rw [if_neg hn, if_neg hn]
      · rw [upd_n _ _ z]
  · show M 33 g' = sI (pcF (mset (mset M 9 t (M 9 t + a)) 32 g (M 32 g + a)) (nI g')) (nP M)
    rw [y]
    exact sI_cg (fun i _ => rfl)
theorem CE_fill {M : MS} {E : ES} {t g : Nat} {a : Int32} (h : CE M E) (ht : t < nT M) (e8 : M 8 t = nI g) (hg : g < 6) : CE (mset (mset M 9 t (M 9 t + a)) 32 g (M 32 g + a)) (eR_ E (upd (eR E) t (eR E t + a))) :=
  ⟨h.1.rows rfl rfl rfl rfl, h.2.1.rows rfl rfl rfl rfl, h.2.2.1.rows rfl rfl rfl rfl rfl (fun _ _ => ⟨rfl, rfl⟩), RC_fill h.2.2.2 ht e8 hg⟩
/-- the reference's new tray -/
def trR (M : MS) (h g : Nat) (a : Int32) : MS := mset (trD M (nI h) (nI g) a) 32 g (M 32 g + a)
theorem RC_tray {M : MS} {E : ES} {h g : Nat} {a : Int32} (hR : RC M E) (hT : nT M < 16) (hg : g < 6) (hpt : ∀ i, i < nP M → ∃ t, t < nT M ∧ M 35 i = nI t) : RC (trR M h g a) (trE M E a) := by
  have n1 : nT (trR M h g a) = nT M + 1 := tr_n (h := nI h) (g := nI g) (a := a) (by omega)
  have r8 : trR M h g a 8 = upd (M 8) (nT M) (nI g) := rfl
  have rE : eR (trE M E a) = upd (eR E) (nT M) a := rfl
  intro g' hg'
  obtain ⟨x, y⟩ := hR g' hg'
  have hold : sI (rcF (trR M h g a) (trE M E a) (nI g')) (nT M) = sI (rcF M E (nI g')) (nT M) := sI_cg (fun i hi => by
    unfold rcF
    rw [r8, rE, upd_n _ _ (show i ≠ nT M by omega), upd_n _ _ (show i ≠ nT M by omega)])
  refine ⟨?_, ?_⟩
  · rw [n1]
    show upd (M 32) g (M 32 g + a) g' = sI (rcF (trR M h g a) (trE M E a) (nI g')) (nT M) + rcF (trR M h g a) (trE M E a) (nI g') (nT M)
    have hl : rcF (trR M h g a) (trE M E a) (nI g') (nT M) = if g = g' then a else 0 := by
      unfold rcF
      rw [r8, rE, upd_s, upd_s]
      by_cases q : g = g'
      · rw [q, if_pos rfl, if_pos rfl]
      · rw [if_neg q, if_neg (fun z => q ((nI_eq (by omega) (by omega)).mp z))]
    rw [hold, hl, ← x]
    by_cases q : g = g'
    · subst q; rw [upd_s, if_pos rfl]
    · rw [upd_n _ _ (fun z => q z.symm), if_neg q, Int32.add_zero]
  · show M 33 g' = sI (pcF (trR M h g a) (nI g')) (nP M)
    rw [y]
    refine sI_cg (fun i hi => ?_)
    obtain ⟨t, ht, e⟩ := hpt i hi
    unfold pcF
    show (if M 8 (ix (M 35 i)) = nI g' then (1 : Int32) else 0) = if trR M h g a 8 (ix (M 35 i)) = nI g' then 1 else 0
    rw [r8, e, ix_nI (by omega), upd_n _ _ (show t ≠ nT M by omega)]
theorem CE_tray {B : Nat} {M : MS} {E : ES} {h g : Nat} {a : Int32} (hc : CE M E) (hI : INV B M) (hT : nT M < 16) (hg : g < 6) : CE (trR M h g a) (trE M E a) :=
  ⟨hc.1.rows rfl rfl rfl rfl, hc.2.1.rows rfl rfl rfl rfl, hc.2.2.1.rows rfl rfl rfl rfl rfl (fun _ _ => ⟨rfl, rfl⟩), RC_tray hc.2.2.2 hT hg (fun i hi => (hI.p.2.2 i hi).1)⟩
theorem CE_stn {B : Nat} {M : MS} {E : ES} {x : Int32} (hc : CE M E) (hI : INV B M) (hS : nS M < 3) : CE (stD M x) (stE M E) := by
  have n1 : nS (stD M x) = nS M + 1 := st_n (by omega)
  have eNs : ∀ i, eN (stE M E) i = if i = 17 + nS M then 0 else eN E i := fun i => rfl
  refine ⟨hc.1.rows rfl rfl rfl rfl, hc.2.1.rows rfl rfl rfl rfl, fun s hs => ?_, hc.2.2.2.keep rfl rfl rfl PK.rf rfl⟩
  rw [n1] at hs
  show (∀ j, j < eN (stE M E) (17 + s) → VL M (eL E (17 + s) j) = true ∧ M 14 (eL E (17 + s) j) = nI s) ∧ (∀ k, VL M k = true → M 14 k = nI s → ∃ j, j < eN (stE M E) (17 + s) ∧ eL E (17 + s) j = k) ∧ ∀ a b, a < b → b < eN (stE M E) (17 + s) → (M 15 (eL E (17 + s) a)).toInt < (M 15 (eL E (17 + s) b)).toInt
  rw [eNs]
  by_cases z : s = nS M
  · subst z
    rw [if_pos rfl]
    refine ⟨fun j hj => by omega, fun k hk h14 => ?_, fun a b _ hb => by omega⟩
    rcases (hI.f.2.2.2.1 k hk).2.2 with q | ⟨s', c9, y1, y2, -⟩
    · rw [q] at h14; exact absurd h14.symm (nI_m1 (by omega))
    · rw [y2] at h14
      have := (nI_eq (by omega) (by omega)).mp h14
      omega
  · rw [if_neg (by omega)]
    exact hc.2.2.1 s (by omega)
theorem CE_ord {B : Nat} {M : MS} {E : ES} (hc : CE M E) (hI : INV B M) (hO : nO M < 10) : CE (orD M) (orE M E) := by
  have hV : VL (orD M) = VL M := by funext k; rw [Bool.eq_iff_iff]; exact or_VL hO hI.f.1 k
  exact ⟨hc.1.rows rfl rfl rfl rfl, hc.2.1.rows rfl rfl rfl rfl, hc.2.2.1.keep rfl hV rfl rfl (fun _ _ => ⟨rfl, rfl⟩), hc.2.2.2.keep rfl rfl rfl PK.rf rfl⟩
theorem CE_line {B : Nat} {M : MS} {E : ES} {o : Nat} {g a : Int32} (hc : CE M E) (hI : INV B M) (ho : o < nO M) (hL : nL M o < 3) : CE (liD M o g a) (liE M E o) := by
  have hV := li_VL (g := g) (a := a) ho hL
  have h3 := hI.c.S3
  have r14 : liD M o g a 14 = upd (M 14) (3 * o + nL M o) (-1) := rfl
  refine ⟨hc.1.rows rfl rfl rfl rfl, hc.2.1.rows rfl rfl rfl rfl, fun s hs => ?_, hc.2.2.2.keep rfl rfl rfl PK.rf rfl⟩
  have hs : s < nS M := hs
  obtain ⟨x1, x2, x3⟩ := hc.2.2.1 s hs
  have hold : ∀ k, VL M k = true → k ≠ 3 * o + nL M o := fun k hk e => by
    unfold VL at hk
    rw [Bool.and_eq_true, decide_eq_true_eq, decide_eq_true_eq, e, show (3 * o + nL M o) / 3 = o by omega] at hk
    omega
  refine ⟨fun j hj => ?_, fun k hk h14 => ?_, x3⟩
  · obtain ⟨y1, y2⟩ := x1 j hj
    have y3 := hold _ y1
    exact ⟨(hV _).mpr (Or.inl y1), by rw [r14]; exact (upd_n _ _ y3).trans y2⟩
  · rw [r14] at h14
    by_cases z : k = 3 * o + nL M o
    · rw [z, upd_s] at h14; exact absurd h14.symm (nI_m1 (by omega))
    · rw [upd_n _ _ z] at h14
      exact x2 k (((hV k).mp hk).resolve_right z) h14
theorem CE_rob {M : MS} {E : ES} {c w : Int32} (hc : CE M E) (hR : nR M < 6) : CE (rbD M c w) (rbE M E) := by
  have n1 : nR (rbD M c w) = nR M + 1 := rb_n (by omega)
  have r18 : rbD M c w 18 = upd (M 18) (nR M) c := rfl
  have r20 : rbD M c w 20 = upd (M 20) (nR M) 0 := rfl
  have r24 : rbD M c w 24 = upd (M 24) (nR M) (-1) := rfl
  refine ⟨fun q hq => ?_, fun r hr ha => ?_, hc.2.2.1.rows rfl rfl rfl rfl rfl (fun _ _ => ⟨rfl, rfl⟩), hc.2.2.2.keep rfl rfl rfl PK.rf rfl⟩
  · show eD E q = true ↔ _
    rw [hc.1 q hq, n1, r18, r20]
    constructor
    · rintro ⟨r, a, b, d⟩
      exact ⟨r, by omega, by rw [upd_n _ _ (show r ≠ nR M by omega)]; exact b, by rw [upd_n _ _ (show r ≠ nR M by omega)]; exact d⟩
    · rintro ⟨r, a, b, d⟩
      by_cases z : r = nR M
      · rw [z, upd_s] at d; exact absurd d (by decide)
      · exact ⟨r, by omega, by rw [upd_n _ _ z] at b; exact b, by rw [upd_n _ _ z] at d; exact d⟩
  · rw [n1] at hr
    rw [r24] at ha
    by_cases z : r = nR M
    · rw [z, upd_s] at ha; exact absurd rfl ha
    · rw [upd_n _ _ z] at ha
      show upd (eS E) (nR M) 0 r = M 25 r
      rw [upd_n _ _ z]
      exact hc.2.1 r (by omega) ha
theorem CE_die {B : Nat} {M : MS} {E : ES} {r c0 : Nat} (hc : CE M E) (hI : INV B M) (hr : r < nR M) (h18 : M 18 r = nI c0) (hc0 : c0 < 64) : CE (dieX M r) (eD_ E (fun q => if q = c0 then true else eD E q)) := by
  have e18 : dieX M r 18 = M 18 := rfl
  have e20 : dieX M r 20 = upd (M 20) r 5 := rfl
  have e24 : dieX M r 24 = upd (M 24) r (-1) := rfl
  refine ⟨fun q hq => ?_, fun r' hr' ha => ?_, hc.2.2.1.rows rfl rfl rfl rfl rfl (fun _ _ => ⟨rfl, rfl⟩), hc.2.2.2.keep rfl rfl rfl PK.rf rfl⟩
  · show (if q = c0 then true else eD E q) = true ↔ ∃ r', r' < nR M ∧ dieX M r 18 r' = nI q ∧ dieX M r 20 r' = 5
    rw [e18, e20]
    by_cases z : q = c0
    · rw [if_pos z, z]
      exact ⟨fun _ => ⟨r, hr, h18, upd_s _ _ _⟩, fun _ => rfl⟩
    · rw [if_neg z, hc.1 q hq]
      constructor
      · rintro ⟨r', a, b, d⟩
        refine ⟨r', a, b, ?_⟩
        by_cases y : r' = r
        · rw [y, upd_s]
        · rw [upd_n _ _ y]; exact d
      · rintro ⟨r', a, b, d⟩
        refine ⟨r', a, b, ?_⟩
        by_cases y : r' = r
        · rw [y, h18] at b
          exact absurd ((nI_eq (by omega) (by omega)).mp b).symm z
        · rw [upd_n _ _ y] at d; exact d
  · rw [e24] at ha
    by_cases y : r' = r
    · rw [y, upd_s] at ha; exact absurd rfl ha
    · rw [upd_n _ _ y] at ha
      exact hc.2.1 r' hr' ha
theorem CE_rep {B : Nat} {M : MS} {E : ES} {r c0 : Nat} (hc : CE M E) (hI : INV B M) (hr : r < nR M) (h18 : M 18 r = nI c0) (hc0 : c0 < 64) : CE (becF M r (rpX M r)) (eD_ E (fun q => if q = c0 then false else eD E q)) := by
  have e18 : becF M r (rpX M r) 18 = M 18 := rfl
  have e20 : becF M r (rpX M r) 20 = upd (M 20) r (rpX M r) := rfl
  have e24 : becF M r (rpX M r) 24 = upd (M 24) r (-1) := rfl
  have h5 : rpX M r ≠ 5 := by unfold rpX; split <;> decide
  refine ⟨fun q hq => ?_, fun r' hr' ha => ?_, hc.2.2.1.rows rfl rfl rfl rfl rfl (fun _ _ => ⟨rfl, rfl⟩), hc.2.2.2.keep rfl rfl rfl PK.rf rfl⟩
  · show (if q = c0 then false else eD E q) = true ↔ ∃ r', r' < nR M ∧ becF M r (rpX M r) 18 r' = nI q ∧ becF M r (rpX M r) 20 r' = 5
    rw [e18, e20]
    by_cases z : q = c0
    · rw [if_pos z, z]
      refine ⟨(fun y => by cases y), fun ⟨r', a, b, d⟩ => ?_⟩
      have hrr : r' = r := hI.u18 r' r a hr (by rw [b, h18])
      rw [hrr, upd_s] at d
      exact absurd d h5
    · rw [if_neg z, hc.1 q hq]
      constructor
      · rintro ⟨r', a, b, d⟩
        refine ⟨r', a, b, ?_⟩
        by_cases y : r' = r
        · rw [y, h18] at b
          exact absurd ((nI_eq (by omega) (by omega)).mp b).symm z
        · rw [upd_n _ _ y]; exact d
      · rintro ⟨r', a, b, d⟩
        refine ⟨r', a, b, ?_⟩
        by_cases y : r' = r
        · rw [y, upd_s] at d; exact absurd d h5
        · rw [upd_n _ _ y] at d; exact d
  · rw [e24] at ha
    by_cases y : r' = r
    · rw [y, upd_s] at ha; exact absurd rfl ha
    · rw [upd_n _ _ y] at ha
      exact hc.2.1 r' hr' ha
