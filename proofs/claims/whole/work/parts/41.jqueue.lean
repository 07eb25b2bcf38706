/-! POINT 7: those that ask, in their order -/
def RQ (E E2 : ES) : Prop := EK E E2 ∧ eS E2 = eS E ∧ eN E2 5 = eN E 5 ∧ eL E2 5 = eL E 5 ∧ eC E2 5 = eC E 5 ∧ eC E2 3 = eC E 3
theorem RQ.rf {E : ES} : RQ E E := ⟨EK.rf, rfl, rfl, rfl, rfl, rfl⟩
theorem RQ.tr {E E1 E2 : ES} (h : RQ E E1) (h2 : RQ E1 E2) : RQ E E2 := ⟨h.1.tr h2.1, h2.2.1.trans h.2.1, h2.2.2.1.trans h.2.2.1, h2.2.2.2.1.trans h.2.2.2.1, h2.2.2.2.2.1.trans h.2.2.2.2.1, h2.2.2.2.2.2.trans h.2.2.2.2.2⟩
theorem RQ.ch {E : ES} {n c : Nat} {f : Nat → Nat} : RQ E (chE E 6 n f c) := by
  refine ⟨⟨rfl, rfl, fun i hi => ⟨?_, ?_⟩, fun i a b c => ?_⟩, rfl, rfl, rfl, rfl, rfl⟩
  · exact if_neg (by omega)
  · exact if_neg (by omega)
  · exact if_neg b
def ahd (M : MS) (a b : Nat) : Bool := decide (M 25 a < M 25 b) || (decide (M 25 a = M 25 b) && abvB M a b)
theorem gb_ahd {M : MS} {E : ES} (hA : AS M E) {a b : Nat} (ha : a < nR M) (hb : b < nR M) (ha2 : ¬ M 24 a = -1) (hb2 : ¬ M 24 b = -1) : gbB M E a b = ahd M a b := by
  unfold gbB ahd
  rw [hA a ha ha2, hA b hb hb2]
theorem ahd_iff {M : MS} {a b : Nat} : ahd M a b = true ↔ (M 25 a).toInt < (M 25 b).toInt ∨ ((M 25 a).toInt = (M 25 b).toInt ∧ ((M 19 b).toInt < (M 19 a).toInt ∨ ((M 19 a).toInt = (M 19 b).toInt ∧ a < b))) := by
  unfold ahd abvB
  simp only [Bool.or_eq_true, Bool.and_eq_true, decide_eq_true_eq, Int32.lt_iff_toInt_lt, ← Int32.toInt_inj]
theorem ahd_tot {M : MS} {a b : Nat} (h : a ≠ b) : ahd M a b = true ∨ ahd M b a = true := by
  rw [ahd_iff, ahd_iff]; omega
theorem ahd_as {M : MS} {a b : Nat} (h : ahd M a b = true) : ¬ ahd M b a = true := by
  rw [ahd_iff] at h ⊢; omega
theorem ahd_tr {M : MS} {a b c : Nat} (h : ahd M a b = true) (h2 : ahd M b c = true) : ahd M a c = true := by
  rw [ahd_iff] at h h2 ⊢; omega
/-- the first place at which g fails -/
def ffN (g : Nat → Bool) (n : Nat) : Nat → Nat
  | 0 => n
  | k + 1 => if g (n - (k + 1)) = true then ffN g n k else n - (k + 1)
theorem ffN_spec {g : Nat → Bool} {n : Nat} : ∀ k, k ≤ n → n - k ≤ ffN g n k ∧ ffN g n k ≤ n ∧ (∀ j, n - k ≤ j → j < ffN g n k → g j = true) ∧ (ffN g n k < n → g (ffN g n k) = false)
  | 0, _ => ⟨by show n - 0 ≤ n; omega, Nat.le_refl _, fun j a b => by have : j < n := b; omega, fun h => absurd h (Nat.lt_irrefl _)⟩
  | k + 1, hk => by
    unfold ffN
    by_cases h : g (n - (k + 1)) = true
    · rw [if_pos h]
      obtain ⟨a, b, c, d⟩ := ffN_spec (g := g) (n := n) k (by omega)
      refine ⟨by omega, b, fun j hj hj2 => ?_, d⟩
      by_cases e : j = n - (k + 1)
      · rw [e]; exact h
      · exact c j (by omega) hj2
    · rw [if_neg h]
      refine ⟨Nat.le_refl _, by omega, fun j a b => by omega, fun _ => by simpa using h⟩
/-- the queue: those below i that ask, in their order -/
def QI (M : MS) (i n : Nat) (f : Nat → Nat) : Prop := (∀ j, j < n → f j < i ∧ ¬ M 24 (f j) = -1) ∧ (∀ k, k < i → ¬ M 24 k = -1 → ∃ j, j < n ∧ f j = k) ∧ ∀ a b, a < b → b < n → ahd M (f a) (f b) = true
theorem QI.n {M : MS} {i n : Nat} {f : Nat → Nat} (h : QI M i n f) : n ≤ i := fb_holes i n f (fun j hj => (h.1 j hj).1) (fun a b hab hb e => by
  have := h.2.2 a b hab hb
  rw [e] at this
  exact ahd_as this this)
theorem QI.z {M : MS} {f : Nat → Nat} : QI M 0 0 f := ⟨fun j hj => by omega, fun k hk => by omega, fun a b _ hb => by omega⟩
theorem QI.skip {M : MS} {i n : Nat} {f : Nat → Nat} (h : QI M i n f) (hi : M 24 i = -1) : QI M (i + 1) n f :=
  ⟨fun j hj => ⟨by have := (h.1 j hj).1; omega, (h.1 j hj).2⟩, fun k hk ha => by
    by_cases e : k = i
    · rw [e] at ha; exact absurd hi ha
    · exact h.2.1 k (by omega) ha, h.2.2⟩
theorem QI.ins {M : MS} {i n p : Nat} {f : Nat → Nat} (h : QI M i n f) (hi : ¬ M 24 i = -1) (hp : p ≤ n) (h1 : ∀ j, j < p → ahd M (f j) i = true) (h2 : p < n → ahd M (f p) i = false) : QI M (i + 1) (n + 1) (fin_ f p i) := by
  have hafter : ∀ j, p ≤ j → j < n → ahd M i (f j) = true := fun j hj hjn => by
    have hpi : ahd M i (f p) = true := by
      rcases ahd_tot (M := M) (a := i) (b := f p) (by have := (h.1 p (by omega)).1; omega) with q | q
      · exact q
      · rw [h2 (by omega)] at q; cases q
    by_cases e : j = p
    · rw [e]; exact hpi
    · exact ahd_tr hpi (h.2.2 p j (by omega) hjn)
  refine ⟨fun j hj => ?_, fun k hk ha => ?_, fun a b hab hb => ?_⟩
  · unfold fin_
    split
    · have := h.1 j (by omega); exact ⟨by omega, this.2⟩
    · split
      · exact ⟨by omega, hi⟩
      · have := h.1 (j - 1) (by omega); exact ⟨by omega, this.2⟩
  · by_cases e : k = i
    · exact ⟨p, by omega, by unfold fin_; rw [if_neg (by omega), if_pos rfl, e]⟩
    · obtain ⟨j, hj, ej⟩ := h.2.1 k (by omega) ha
      by_cases q : j < p
      · exact ⟨j, by omega, by unfold fin_; rw [if_pos q]; exact ej⟩
      · exact ⟨j + 1, by omega, by unfold fin_; rw [if_neg (by omega), if_neg (by omega)]; exact ej⟩
  · unfold fin_
    by_cases a1 : a < p
    · rw [if_pos a1]
      by_cases b1 : b < p
      · rw [if_pos b1]; exact h.2.2 a b hab (by omega)
      · rw [if_neg b1]
        by_cases b2 : b = p
        · rw [if_pos b2]; exact h1 a a1
        · rw [if_neg b2]; exact h.2.2 a (b - 1) (by omega) (by omega)
    · rw [if_neg a1, if_neg (show ¬ b < p by omega), if_neg (show ¬ b = p by omega)]
      by_cases a2 : a = p
      · rw [if_pos a2]; exact hafter (b - 1) (by omega) (by omega)
      · rw [if_neg a2]; exact h.2.2 (a - 1) (b - 1) (by omega) (by omega)
noncomputable def goQ (M : MS) (f : Nat → Nat) : Nat → MS
  | 0 => M
  | j + 1 => if rbA (goQ M f j) (goQ M f j 24 (f j)) = none then mvF (goQ M f j) (f j) (goQ M f j 24 (f j)) else goQ M f j
theorem goQ_row {M : MS} {f : Nat → Nat} {k : Nat} (h1 : k ≠ 18) (h2 : k ≠ 24) (h3 : k ≠ 23) (h4 : k ≠ 28) : ∀ j, goQ M f j k = M k
  | 0 => rfl
  | j + 1 => by
    unfold goQ
    split
    · unfold mvF
      rw [mset_n _ _ _ h4, mset_n _ _ _ h3, mset_n _ _ _ h2, mset_n _ _ _ h1]
      exact goQ_row h1 h2 h3 h4 j
    · exact goQ_row h1 h2 h3 h4 j
theorem ahd_cg {M M' : MS} (h25 : M' 25 = M 25) (h19 : M' 19 = M 19) (a b : Nat) : ahd M' a b = ahd M a b := by unfold ahd abvB; rw [h25, h19]
/-- the choice of the reference is the first in the order -/
theorem selG_spec {M : MS} {dn : Nat → Bool} : ∀ n, (selG M dn n = none ∧ ∀ q, q < n → dn q = true) ∨ ∃ g, selG M dn n = some g ∧ g < n ∧ dn g = false ∧ ∀ q, q < n → dn q = false → q ≠ g → ahd M g q = true
  | 0 => Or.inl ⟨rfl, fun q hq => by omega⟩
  | n + 1 => by
    have hs : selG M dn (n + 1) = if dn n = false ∧ ahdB M n (selG M dn n) = true then some n else selG M dn n := rfl
    rcases selG_spec (M := M) (dn := dn) n with ⟨h1, h2⟩ | ⟨g, h1, h2, h3, h4⟩
    · by_cases hd : dn n = false
      · right
        refine ⟨n, by rw [hs, h1, if_pos ⟨hd, rfl⟩], by omega, hd, fun q hq hq2 hne => ?_⟩
        rw [h2 q (by omega)] at hq2; cases hq2
      · left
        refine ⟨by rw [hs, if_neg (fun z => hd z.1)]; exact h1, fun q hq => ?_⟩
        by_cases e : q = n
        · rw [e]; simpa using hd
        · exact h2 q (by omega)
    · right
      by_cases hd : dn n = false ∧ ahd M n g = true
      · refine ⟨n, by rw [hs, h1, if_pos ⟨hd.1, hd.2⟩], by omega, hd.1, fun q hq hq2 hne => ?_⟩
        by_cases e : q = g
        · rw [e]; exact hd.2
        · exact ahd_tr hd.2 (h4 q (by omega) hq2 e)
      · refine ⟨g, by rw [hs, h1, if_neg (fun z => hd ⟨z.1, z.2⟩)], by omega, h3, fun q hq hq2 hne => ?_⟩
        by_cases e : q = n
        · subst e
          rcases ahd_tot (M := M) (a := g) (b := q) (by omega) with z | z
          · exact z
          · exact absurd ⟨hq2, z⟩ hd
        · exact h4 q (by omega) hq2 hne
theorem go_goQ {B : Nat} {M : MS} (hI : INV B M) {n : Nat} {f : Nat → Nat} (hQ : QI M (nR M) n f) : ∀ t, t ≤ n → (goGo M t).1 = goQ M f t ∧ ∀ k, (goGo M t).2 k = true ↔ (dn0 M k = true ∨ ∃ j, j < t ∧ f j = k)
  | 0, _ => ⟨rfl, fun k => ⟨fun h => Or.inl h, fun h => h.elim id (fun ⟨j, hj, _⟩ => by omega)⟩⟩
  | t + 1, ht => by
    obtain ⟨a, b⟩ := go_goQ hI hQ t (by omega)
    have d0 : ∀ j, j < n → dn0 M (f j) = false := fun j hj => by
      have := hQ.1 j hj
      unfold dn0
      rw [decide_eq_false (by omega), decide_eq_false this.2]; rfl
    have inj : ∀ i j, i < n → j < n → f i = f j → i = j := fun i j hi hj e => by
      rcases Nat.lt_trichotomy i j with q | q | q
      · have := hQ.2.2 i j q hj; rw [e] at this; exact absurd this (ahd_as this)
      · exact q
      · have := hQ.2.2 j i q hi; rw [e] at this; exact absurd this (ahd_as this)
    have nd : ∀ j, t ≤ j → j < n → (goGo M t).2 (f j) = false := fun j hj hjn => by
      cases e : (goGo M t).2 (f j) with
      | false => rfl
      | true =>
        rcases (b (f j)).mp e with q | ⟨i, hi, q⟩
        · rw [d0 j hjn] at q; cases q
        · have := inj i j (by omega) hjn q; omega
    have r25 : goQ M f t 25 = M 25 := goQ_row (by decide) (by decide) (by decide) (by decide) t
    have r19 : goQ M f t 19 = M 19 := goQ_row (by decide) (by decide) (by decide) (by decide) t
    have hsel : selG (goGo M t).1 (goGo M t).2 (nR M) = some (f t) := by
      have hft := hQ.1 t (by omega)
      rcases selG_spec (M := (goGo M t).1) (dn := (goGo M t).2) (nR M) with ⟨h1, h2⟩ | ⟨g, h1, h2, h3, h4⟩
      · have k_ := nd t (Nat.le_refl _) (by omega)
        rw [h2 (f t) hft.1] at k_
        cases k_
      · rw [h1]
        congr 1
        refine Classical.byContradiction (fun hne => ?_)
        have hg : dn0 M g = false := by
          cases e : dn0 M g with
          | false => rfl
          | true => rw [(b g).mpr (Or.inl e)] at h3; cases h3
        have hga : ¬ M 24 g = -1 := fun q => by unfold dn0 at hg; rw [decide_eq_true q, Bool.or_true] at hg; cases hg
        obtain ⟨j, hj, ej⟩ := hQ.2.1 g h2 hga
        have hjt : t ≤ j := by
          rcases Nat.lt_or_ge j t with q | q
          · rw [(b g).mpr (Or.inr ⟨j, q, ej⟩)] at h3; cases h3
          · exact q
        have hjt2 : t < j := by
          rcases Nat.lt_or_ge t j with q | q
          · exact q
          · exact absurd (by rw [← ej, show j = t by omega]) hne
        have s1 := hQ.2.2 t j hjt2 hj
        have s2 := h4 (f t) hft.1 (nd t (Nat.le_refl _) (by omega)) (fun q => hne q.symm)
        rw [a, ahd_cg r25 r19, ← ej] at s2
        exact ahd_as s1 s2
    have hgo : goGo M (t + 1) = (if rbA (goGo M t).1 ((goGo M t).1 24 (f t)) = none then mvF (goGo M t).1 (f t) ((goGo M t).1 24 (f t)) else (goGo M t).1, fun k => if k = f t then true else (goGo M t).2 k) := by
      show (match selG (goGo M t).1 (goGo M t).2 (nR M) with | none => goGo M t | some f => _) = _
      rw [hsel]
    rw [hgo]
    refine ⟨?_, fun k => ?_⟩
    · dsimp only
      rw [a]; rfl
    · dsimp only
      by_cases e : k = f t
      · rw [if_pos e]; exact ⟨fun _ => Or.inr ⟨t, by omega, e.symm⟩, fun _ => rfl⟩
      · rw [if_neg e, b k]
        exact or_congr Iff.rfl ⟨fun ⟨j, hj, q⟩ => ⟨j, by omega, q⟩, fun ⟨j, hj, q⟩ => ⟨j, by have : j ≠ t := fun z => e (by rw [← q, z]); omega, q⟩⟩
theorem go_stop {B : Nat} {M : MS} (hI : INV B M) {n : Nat} {f : Nat → Nat} (hQ : QI M (nR M) n f) : ∀ t, n ≤ t → (goGo M t).1 = goQ M f n ∧ ∀ k, k < nR M → (goGo M t).2 k = true
  | 0, h => by
    have hn : n = 0 := by omega
    subst hn
    refine ⟨rfl, fun k hk => ?_⟩
    cases e : dn0 M k with
    | true => exact e
    | false =>
      have hga : ¬ M 24 k = -1 := fun q => by unfold dn0 at e; rw [decide_eq_true q, Bool.or_true] at e; cases e
      obtain ⟨j, hj, -⟩ := hQ.2.1 k hk hga
      omega
  | t + 1, h => by
    by_cases e : n = t + 1
    · subst e
      obtain ⟨a, b⟩ := go_goQ hI hQ (t + 1) (Nat.le_refl _)
      refine ⟨a, fun k hk => (b k).mpr ?_⟩
      cases e : dn0 M k with
      | true => exact Or.inl rfl
      | false =>
        have hga : ¬ M 24 k = -1 := fun q => by unfold dn0 at e; rw [decide_eq_true q, Bool.or_true] at e; cases e
        exact Or.inr (hQ.2.1 k hk hga)
    · obtain ⟨a, b⟩ := go_stop hI hQ t (by omega)
      have hsel : selG (goGo M t).1 (goGo M t).2 (nR M) = none := by
        rcases selG_spec (M := (goGo M t).1) (dn := (goGo M t).2) (nR M) with ⟨h1, h2⟩ | ⟨g, h1, h2, h3, h4⟩
        · exact h1
        · rw [b g h2] at h3; cases h3
      have hgo : goGo M (t + 1) = goGo M t := by
        show (match selG (goGo M t).1 (goGo M t).2 (nR M) with | none => goGo M t | some f => _) = _
        rw [hsel]
      rw [hgo]
      exact ⟨a, b⟩
theorem goF_Q {B : Nat} {M : MS} (hI : INV B M) {n : Nat} {f : Nat → Nat} (hQ : QI M (nR M) n f) : goQ M f n = goF M := (go_stop hI hQ (nR M) hQ.n).1.symm
theorem DK_goG {B : Nat} {M : MS} (hI : INV B M) : ∀ t, DK M (goGo M t).1 ∧ AK M (goGo M t).1
  | 0 => ⟨DK.rf, AK.rf⟩
  | t + 1 => by
    obtain ⟨a, b⟩ := DK_goG hI t
    obtain ⟨i1, i2, i3⟩ := goGo_inv hI t
    show DK M (match selG (goGo M t).1 (goGo M t).2 (nR M) with | none => goGo M t | some f => _).1 ∧ AK M (match selG (goGo M t).1 (goGo M t).2 (nR M) with | none => goGo M t | some f => _).1
    rcases selG_spec (M := (goGo M t).1) (dn := (goGo M t).2) (nR M) with ⟨h1, -⟩ | ⟨g, h1, h2, h3, -⟩
    · rw [h1]; exact ⟨a, b⟩
    · rw [h1]
      dsimp only
      split
      · refine ⟨a.tr (DK_one (mv_off _ g _) ?_ ?_), b.tr (AK_mv _ _ _)⟩
        all_goals
          have hw := asks_way i1 (r := g) (by rw [a.1]; exact h2) (by obtain ⟨j, hj, e⟩ := (i3 g h3).2.1; rw [e]; exact nI_m1 (by omega))
        · rcases hw with q | q | q <;> rw [q] <;> decide
        · show ¬ (goGo M t).1 20 g = 5
          rcases hw with q | q | q <;> rw [q] <;> decide
      · exact ⟨a, b⟩
theorem DK_go {B : Nat} {M : MS} (hI : INV B M) : DK M (goF M) := (DK_goG hI _).1
theorem AK_go {B : Nat} {M : MS} (hI : INV B M) : AK M (goF M) := (DK_goG hI _).2
set_option maxHeartbeats 4000000 in
set_option maxRecDepth 100000 in
theorem cJ_X0_placeInQueue (l : Launch) (G : gG) (d0 mi : Nat) (Rf : Nat → Prop) (ja : Nat → Nat → Nat) (M : MS) (E : ES) (r : Nat) (h_r : r < nR M) (hn6 : eN E 6 ≤ 6) : Met l yX0_placeInQueue (wB yX0_placeInQueue cX0_placeInQueue 3 (some .int)) (rmL 3 0 0) (va_Pc [.ref (ja 0 0), .ref (ja 5 r)] (jB G d0 mi Rf ja M E)) (k2_QcV (.int (nI (ffN (fun j => gbB M E (eL E 6 j) r) (eN E 6) (eN E 6))))) 0 0 fN := by
  refine st_N (own := RX0) (by decide +kernel) rfl (Nat.le_of_ble_eq_true rfl) ?_
  intro p e s m below meth c ls args Q hQ hC hr hlk hnm hl hP
  obtain ⟨hW, hX, hRf⟩ := hP
  have hK := hX.1
  have hx := hC.1
  have hb := hC.2.1
  have hl : lv_has ls 3 [(0, .ref (ja 0 0)), (1, .ref (ja 5 r))] := hl
  have hS : va_S (jA Rf) s.heap s.heap [] := va_S.rf
  refine lv_iconst (v := 0) hx hb dX0_placeInQueue_0 (by decide) ?_
  refine lv_istore_n (lv' := [(2, .int 0), (0, .ref (ja 0 0)), (1, .ref (ja 5 r))]) hx hb dX0_placeInQueue_1 rfl hl (by decide) rfl (fun ls hl => ?_)
  have loop1 : ∀ (n_ : Nat) (j : Nat) (hj : j ≤ eN E 6) (hff : ffN (fun j => gbB M E (eL E 6 j) r) (eN E 6) (eN E 6 - j) = ffN (fun j => gbB M E (eL E 6 j) r) (eN E 6) (eN E 6)) (ls : Array Slot), eN E 6 - j < n_ → lv_has ls 3 [(2, .int (nI j)), (0, .ref (ja 0 0)), (1, .ref (ja 5 r))] → W p l e (rmL 3 0 0) s m args below meth c s.heap [] 0 0 Q (F0 m 2 ls []) := by
    intro n_
    induction n_ with
    | zero => intro j hj hff ls hm hl; omega
    | succ n_ ih1 =>
      intro j hj hff ls hm hl
      refine lv_iload_n hx hb dX0_placeInQueue_2 rfl (lv_at hl 0 rfl) ?_
      refine lv_aload_n hx hb dX0_placeInQueue_3 rfl (lv_at hl 1 rfl) ?_
      refine r1_get hC hK.1 (hW.ob (show jV M 0 0 from rfl)) lay_X0 rfl 7 (by decide) fl_X0_41 (fun x hx => hx) (v := .ref (ja 10 6)) rfl dX0_placeInQueue_4 ?_
      refine jw_size hC hK hW.1 (i := 6) (Or.inl (by decide)) ml_X0_44 hl.1 (Nat.le_of_ble_eq_true rfl) ⟨Nat.le_of_ble_eq_true rfl, Nat.le_of_ble_eq_true rfl, Nat.le_refl _, Nat.le_refl _⟩ dX0_placeInQueue_7 ?_
      refine top_i (y := nI (eN E 6)) rfl ?_
      refine ln_ge (tgt := 37) (a := j) (b := (eN E 6)) hx hb dX0_placeInQueue_10 (by decide) rfl rfl (by omega) (by omega) (fun c_2t => ?_) (fun c_2f => ?_)
      · refine lv_iload_n hx hb dX0_placeInQueue_37 rfl (lv_at hl 0 rfl) ?_
        subst hQ
        exact rt_i hx hb hr hlk (by rw [← hff, show eN E 6 - j = 0 by omega]; unfold ffN; congr 1; omega) dX0_placeInQueue_38
      · refine lv_aload_n hx hb dX0_placeInQueue_13 rfl (lv_at hl 1 rfl) ?_
        refine r1_get hC hK.1 (hW.ob (show jV M 0 0 from rfl)) lay_X0 rfl 7 (by decide) fl_X0_41 (fun x hx => hx) (v := .ref (ja 10 6)) rfl dX0_placeInQueue_14 ?_
        refine lv_iload_n hx hb dX0_placeInQueue_17 rfl (lv_at hl 0 rfl) ?_
        refine jw_get hC hK hW.1 (i := 6) (j := j) (Or.inl (by decide)) (show j < jn M E 6 from (by show j < eN E 6; omega)) ml_X0_48 hl.1 (Nat.le_of_ble_eq_true rfl) ⟨Nat.le_of_ble_eq_true rfl, Nat.le_of_ble_eq_true rfl, Nat.le_refl _, Nat.le_refl _⟩ dX0_placeInQueue_18 ?_
        have hv6_3 : eL E 6 j < nR M := hW.el (i := 6) (Or.inl (by decide)) (j := j) (by show j < eN E 6; omega)
        refine jw_cast hC hK (hW.ob (show jV M 5 (eL E 6 j) from hv6_3)) rfl cl_X0_52 dX0_placeInQueue_21 ?_
        refine lv_aload_n hx hb dX0_placeInQueue_24 rfl (lv_at hl 2 rfl) ?_
        refine cl_p (run_V hC (cJ_X5_goesBefore l G d0 mi Rf ja M E (eL E 6 j) r (show (eL E 6 j) < nR M from hv6_3) (show r < nR M from h_r) (by have := hW.cnt.R6; omega)) (As := [.ref (ja 5 r)]) (rest := []) rfl rfl ml_X0_174 im_X5_goesBefore se_X5_goesBefore ini_X5 cd_X5_goesBefore ⟨rfl, na_X5_goesBefore⟩ jB_blind (hW.recv hK (show jV M 5 (eL E 6 j) from hv6_3) rfl) (jB_at hX hRf hW hS) hl.1 (Nat.le_of_ble_eq_true rfl) ⟨Nat.le_of_ble_eq_true rfl, Nat.le_of_ble_eq_true rfl⟩ ⟨Nat.le_refl _, Nat.le_refl _⟩ rfl dX0_placeInQueue_25) ?_
        refine lb_eq (tgt := 37) (b := (gbB M E (eL E 6 j) r)) hx hb dX0_placeInQueue_28 (by decide) (fun c_4t => ?_) (fun c_4f => ?_)
        · refine lv_iload_n hx hb dX0_placeInQueue_37 rfl (lv_at hl 0 rfl) ?_
          subst hQ
          exact rt_i hx hb hr hlk (by rw [← hff, show eN E 6 - j = (eN E 6 - (j + 1)) + 1 by omega, ffN, show eN E 6 - ((eN E 6 - (j + 1)) + 1) = j by omega, if_neg (by show ¬ gbB M E (eL E 6 j) r = true; rw [c_4t]; exact fun q => by cases q)]) dX0_placeInQueue_38
        · refine lv_iinc (v := nI (j + 1)) (lv' := [(2, .int (nI (j + 1))), (0, .ref (ja 0 0)), (1, .ref (ja 5 r))]) hx hb dX0_placeInQueue_31 hl (k := 0) rfl (nI_inc _) (by decide) rfl (fun ls hl => ?_)
          refine lv_goto (tgt := 2) hx hb dX0_placeInQueue_34 (by decide) ?_
          exact ih1 (j + 1) (by omega) (by rw [← hff, show eN E 6 - j = (eN E 6 - (j + 1)) + 1 by omega, ffN, show eN E 6 - ((eN E 6 - (j + 1)) + 1) = j by omega]; exact (if_pos c_4f).symm) ls (by omega) (lv_sub hl [0, 1, 2] rfl)
  exact loop1 ((eN E 6 - 0) + 1) 0 (Nat.zero_le _) rfl ls (by omega) (lv_sub hl [0, 1, 2] rfl)
set_option maxHeartbeats 4000000 in
set_option maxRecDepth 100000 in
theorem cJ_X0_lineUpAskers (l : Launch) (G : gG) (d0 mi : Nat) (Rf : Nat → Prop) (ja : Nat → Nat → Nat) (M : MS) (E : ES) (B : Nat) (hI : INV B M) (hA : AS M E) : Met l yX0_lineUpAskers (wB yX0_lineUpAskers cX0_lineUpAskers 3 none) (rmL 6 (uC E 6) (10 * uC E 6)) (va_Pc [.ref (ja 0 0)] (jB G d0 mi Rf ja M E)) (va_Qv (S := ES) (fun E2 => RQ E E2 ∧ QI M (nR M) (eN E2 6) (eL E2 6)) (fun E2 z9 => WJ G d0 Rf ja (M) (E2) z9.heap) (jA Rf)) (uC E 6) (10 * uC E 6) (jA Rf) := by
  refine st_N (own := RX0) (by decide +kernel) rfl (Nat.le_of_ble_eq_true rfl) ?_
  intro p e s m below meth c ls args Q hQ hC hr hlk hnm hl hP
  obtain ⟨hW, hX, hRf⟩ := hP
  have hK := hX.1
  have hx := hC.1
  have hb := hC.2.1
  have hl : lv_has ls 3 [(0, .ref (ja 0 0))] := hl
  obtain ⟨H, locs, hHe, hLe⟩ : ∃ (H : Heap) (locs : List Loc), H = s.heap ∧ locs = [] := ⟨_, _, rfl, rfl⟩
  rw [← hHe] at hW
  have hS : va_S (jA Rf) s.heap H locs := by rw [hHe, hLe]; exact va_S.rf
  suffices hgo : W p l e (rmL 6 (uC E 6) (10 * uC E 6)) s m args below meth c H locs 0 0 Q (F0 m 0 ls []) by
    rw [hHe, hLe] at hgo
    exact hgo
  clear hHe hLe
  refine lv_aload_n hx hb dX0_lineUpAskers_0 rfl (lv_at hl 0 rfl) ?_
  refine r1_get hC hK.1 (hW.ob (show jV M 0 0 from rfl)) lay_X0 rfl 7 (by decide) fl_X0_41 (fun x hx => hx) (v := .ref (ja 10 6)) rfl dX0_lineUpAskers_1 ?_
  refine jr_clear hC hX hRf hW hS (i := 6) (Or.inr rfl) ml_X0_118 hl.1 (Nat.le_of_ble_eq_true rfl) ⟨Nat.le_of_ble_eq_true rfl, Nat.le_of_ble_eq_true rfl, (by show 0 ≤ uC E 6; omega), (by show 0 ≤ 10 * uC E 6; omega)⟩ dX0_lineUpAskers_4 (fun H locs hW hS => ?_)
  obtain ⟨E6, hE6⟩ : ∃ z, z = chE E 6 0 (eL E 6) (eC E 6) := ⟨_, rfl⟩
  rw [← hE6] at hW
  refine lv_iconst (v := 0) hx hb dX0_lineUpAskers_7 (by decide) ?_
  refine lv_istore_n (lv' := [(1, .int 0), (0, .ref (ja 0 0))]) hx hb dX0_lineUpAskers_8 rfl hl (by decide) rfl (fun ls hl => ?_)
  have loop1 : ∀ (n_ : Nat) (i : Nat) (cu : Nat) (su : Nat) (Ei : ES) (H : Heap) (locs : List Loc) (hi : i ≤ nR M) (hEr : RQ E Ei) (hQi : QI M i (eN Ei 6) (eL Ei 6)) (hcu : cu + uC Ei 6 ≤ uC E 6) (hsu : su + 10 * uC Ei 6 ≤ 10 * uC E 6) (hW : WJ G d0 Rf ja M Ei H) (hS : va_S (jA Rf) s.heap H locs) (ls : Array Slot), nR M - i < n_ → lv_has ls 3 [(1, .int (nI i)), (0, .ref (ja 0 0))] → W p l e (rmL 6 (uC E 6) (10 * uC E 6)) s m args below meth c H locs cu su Q (F0 m 9 ls []) := by
    intro n_
    induction n_ with
    | zero => intro i cu su Ei H locs hi hEr hQi hcu hsu hW hS ls hm hl; omega
    | succ n_ ih1 =>
      intro i cu su Ei H locs hi hEr hQi hcu hsu hW hS ls hm hl
      have h6 := hI.c.R6
      have hn9 := hQi.n
      refine lv_iload_n hx hb dX0_lineUpAskers_9 rfl (lv_at hl 0 rfl) ?_
      refine lv_aload_n hx hb dX0_lineUpAskers_10 rfl (lv_at hl 1 rfl) ?_
      refine r1_get hC hK.1 (hW.ob (show jV M 0 0 from rfl)) lay_X0 rfl 1 (by decide) fl_X0_21 (fun x hx => hx) (v := .ref (ja 10 4)) rfl dX0_lineUpAskers_11 ?_
      refine jw_size hC hK hW.1 (i := 4) (Or.inl (by decide)) ml_X0_44 hl.1 (Nat.le_of_ble_eq_true rfl) ⟨Nat.le_of_ble_eq_true rfl, Nat.le_of_ble_eq_true rfl, (by show cu ≤ uC E 6; omega), (by show su ≤ 10 * uC E 6; omega)⟩ dX0_lineUpAskers_14 ?_
      refine top_i (y := nI (nR M)) rfl ?_
      refine ln_ge (tgt := 59) (a := i) (b := (nR M)) hx hb dX0_lineUpAskers_17 (by decide) rfl rfl (by omega) (by omega) (fun c_2t => ?_) (fun c_2f => ?_)
      · subst hQ
        exact rt_qv Ei hx hb hr hlk hS (⟨hEr, by rw [show nR M = i by omega]; exact hQi⟩) (fun t ht _ => by show WJ G d0 Rf ja _ _ t.heap; rw [ht]; exact hW) (by show cu ≤ uC E 6; omega) (by show su ≤ 10 * uC E 6; omega) dX0_lineUpAskers_59
      · refine lv_aload_n hx hb dX0_lineUpAskers_20 rfl (lv_at hl 1 rfl) ?_
        refine r1_get hC hK.1 (hW.ob (show jV M 0 0 from rfl)) lay_X0 rfl 1 (by decide) fl_X0_21 (fun x hx => hx) (v := .ref (ja 10 4)) rfl dX0_lineUpAskers_21 ?_
        refine lv_iload_n hx hb dX0_lineUpAskers_24 rfl (lv_at hl 0 rfl) ?_
        refine jw_get hC hK hW.1 (i := 4) (j := i) (Or.inl (by decide)) (show i < jn M Ei 4 from (by show i < nR M; omega)) ml_X0_48 hl.1 (Nat.le_of_ble_eq_true rfl) ⟨Nat.le_of_ble_eq_true rfl, Nat.le_of_ble_eq_true rfl, (by show cu ≤ uC E 6; omega), (by show su ≤ 10 * uC E 6; omega)⟩ dX0_lineUpAskers_25 ?_
        refine jw_cast hC hK (hW.ob (show jV M 5 i from (by show i < nR M; omega))) rfl cl_X0_52 dX0_lineUpAskers_28 ?_
        refine lv_astore_n (lv' := [(2, .ref (ja 5 i)), (1, .int (nI i)), (0, .ref (ja 0 0))]) hx hb dX0_lineUpAskers_31 rfl hl (by decide) rfl (fun ls hl => ?_)
        refine lv_aload_n hx hb dX0_lineUpAskers_32 rfl (lv_at hl 0 rfl) ?_
        refine r1_get hC hK.1 (hW.ob (show jV M 5 i from (by show i < nR M; omega))) lay_X5 rfl 6 (by decide) fl_X0_125 (fun x hx => hx) (v := .int (M 24 i)) rfl dX0_lineUpAskers_33 ?_
        refine lv_iconst (v := (-1)) hx hb dX0_lineUpAskers_36 (by decide) ?_
        refine lv_icmp_eq (tgt := 53) hx hb dX0_lineUpAskers_37 (by decide) (fun c_3t => ?_) (fun c_3f => ?_)
        · refine lv_iinc (v := nI (i + 1)) (lv' := [(1, .int (nI (i + 1))), (2, .ref (ja 5 i)), (0, .ref (ja 0 0))]) hx hb dX0_lineUpAskers_53 hl (k := 1) rfl (nI_inc _) (by decide) rfl (fun ls hl => ?_)
          refine lv_goto (tgt := 9) hx hb dX0_lineUpAskers_56 (by decide) ?_
          exact ih1 (i + 1) cu su Ei H locs (by omega) hEr (hQi.skip c_3t) hcu hsu hW hS ls (by omega) (lv_sub hl [0, 2] rfl)
        · refine lv_aload_n hx hb dX0_lineUpAskers_40 rfl (lv_at hl 2 rfl) ?_
          refine r1_get hC hK.1 (hW.ob (show jV M 0 0 from rfl)) lay_X0 rfl 7 (by decide) fl_X0_41 (fun x hx => hx) (v := .ref (ja 10 6)) rfl dX0_lineUpAskers_41 ?_
          refine lv_aload_n hx hb dX0_lineUpAskers_44 rfl (lv_at hl 2 rfl) ?_
          refine lv_aload_n hx hb dX0_lineUpAskers_45 rfl (lv_at hl 0 rfl) ?_
          refine cl_p (run_V hC (cJ_X0_placeInQueue l G d0 mi Rf ja M Ei i (show i < nR M from (by show i < nR M; omega)) (by omega)) (As := [.ref (ja 5 i)]) (rest := [.ref (ja 10 6)]) rfl rfl ml_X0_168 im_X0_placeInQueue se_X0_placeInQueue ini_X0 cd_X0_placeInQueue ⟨rfl, na_X0_placeInQueue⟩ jB_blind (hW.recv hK (show jV M 0 0 from rfl) rfl) (jB_at hX hRf hW hS) hl.1 (Nat.le_of_ble_eq_true rfl) ⟨Nat.le_of_ble_eq_true rfl, Nat.le_of_ble_eq_true rfl⟩ ⟨by show cu + 0 ≤ uC E 6; omega, by show su + 0 ≤ 10 * uC E 6; omega⟩ rfl dX0_lineUpAskers_46) ?_
          have hask := c_3f
          obtain ⟨-, hp1, hpa, hpb⟩ := ffN_spec (g := fun j => gbB M Ei (eL Ei 6 j) i) (n := eN Ei 6) (eN Ei 6) (Nat.le_refl _)
          obtain ⟨pp, hpp⟩ : ∃ z, z = ffN (fun j => gbB M Ei (eL Ei 6 j) i) (eN Ei 6) (eN Ei 6) := ⟨_, rfl⟩
          rw [← hpp] at hp1 hpa hpb
          have hai : AS M Ei := fun r h1 h2 => by rw [hEr.2.1]; exact hA r h1 h2
          have hp2 : ∀ j, j < pp → ahd M (eL Ei 6 j) i = true := fun j hj => by rw [← gb_ahd hai (by have := (hQi.1 j (by omega)).1; omega) (by omega) (hQi.1 j (by omega)).2 hask]; exact hpa j (by omega) hj
          have hp3 : pp < eN Ei 6 → ahd M (eL Ei 6 pp) i = false := fun hj => by rw [← gb_ahd hai (by have := (hQi.1 pp hj).1; omega) (by omega) (hQi.1 pp hj).2 hask]; exact hpb hj
          refine top_i (y := nI pp) (by rw [hpp]) ?_
          refine lv_aload_n hx hb dX0_lineUpAskers_49 rfl (lv_at hl 0 rfl) ?_
          refine jr_ins hC hX hRf hW hS (i := 6) (j := pp) (Or.inr rfl) (show i < nR M from (by show i < nR M; omega)) (by omega) (by omega) ml_X0_171 hl.1 (Nat.le_of_ble_eq_true rfl) ⟨Nat.le_of_ble_eq_true rfl, Nat.le_of_ble_eq_true rfl⟩ ⟨by show cu + uC Ei 6 ≤ uC E 6; omega, by show su + 10 * uC Ei 6 ≤ 10 * uC E 6; omega⟩ dX0_lineUpAskers_50 (fun H locs hW hS => ?_)
          obtain ⟨E7, hE7⟩ : ∃ z, z = chE Ei 6 (eN Ei 6 + 1) (fin_ (eL Ei 6) pp i) (capN (eC Ei 6) (eN Ei 6)) := ⟨_, rfl⟩
          rw [← hE7] at hW
          have hr7 : RQ E E7 := hEr.tr (by rw [hE7]; exact RQ.ch)
          have hu7 : uC E7 6 = 0 := by rw [hE7]; exact uC_add
          have hq7 : QI M (i + 1) (eN E7 6) (eL E7 6) := by rw [hE7, chE_N, chE_L]; exact hQi.ins hask hp1 hp2 hp3
          refine lv_iinc (v := nI (i + 1)) (lv' := [(1, .int (nI (i + 1))), (2, .ref (ja 5 i)), (0, .ref (ja 0 0))]) hx hb dX0_lineUpAskers_53 hl (k := 1) rfl (nI_inc _) (by decide) rfl (fun ls hl => ?_)
          refine lv_goto (tgt := 9) hx hb dX0_lineUpAskers_56 (by decide) ?_
          exact ih1 (i + 1) (cu + uC Ei 6) (su + 10 * uC Ei 6) E7 H locs (by omega) hr7 hq7 (by omega) (by omega) hW hS ls (by omega) (lv_sub hl [0, 2] rfl)
  exact loop1 ((nR M - 0) + 1) 0 0 0 E6 H locs (Nat.zero_le _) (by rw [hE6]; exact RQ.ch) (by rw [hE6, chE_N]; exact QI.z) (by rw [hE6, uC_same]; omega) (by rw [hE6, uC_same]; omega) hW hS ls (by omega) (lv_sub hl [0, 1] rfl)
set_option maxHeartbeats 4000000 in
set_option maxRecDepth 100000 in
theorem cJ_X0_moveOn (l : Launch) (G : gG) (d0 mi : Nat) (Rf : Nat → Prop) (ja : Nat → Nat → Nat) (M : MS) (E : ES) (B : Nat) (hI : INV B M) (hA : AS M E) : Met l yX0_moveOn (wB yX0_moveOn cX0_moveOn 3 none) (rmL 7 (uC E 6) (10 * uC E 6)) (va_Pc [.ref (ja 0 0)] (jB G d0 mi Rf ja M E)) (va_Qv (S := ES) (fun E2 => RQ E E2) (fun E2 z9 => WJ G d0 Rf ja (goF M) (E2) z9.heap) (jA Rf)) (uC E 6) (10 * uC E 6) (jA Rf) := by
  refine st_N (own := RX0) (by decide +kernel) rfl (Nat.le_of_ble_eq_true rfl) ?_
  intro p e s m below meth c ls args Q hQ hC hr hlk hnm hl hP
  obtain ⟨hW, hX, hRf⟩ := hP
  have hK := hX.1
  have hx := hC.1
  have hb := hC.2.1
  have hl : lv_has ls 3 [(0, .ref (ja 0 0))] := hl
  obtain ⟨H, locs, hHe, hLe⟩ : ∃ (H : Heap) (locs : List Loc), H = s.heap ∧ locs = [] := ⟨_, _, rfl, rfl⟩
  rw [← hHe] at hW
  have hS : va_S (jA Rf) s.heap H locs := by rw [hHe, hLe]; exact va_S.rf
  suffices hgo : W p l e (rmL 7 (uC E 6) (10 * uC E 6)) s m args below meth c H locs 0 0 Q (F0 m 0 ls []) by
    rw [hHe, hLe] at hgo
    exact hgo
  clear hHe hLe
  refine lv_aload_n hx hb dX0_moveOn_0 rfl (lv_at hl 0 rfl) ?_
  refine jcl_vE (run_V hC (cJ_X0_lineUpAskers l G d0 mi Rf ja M E B (by assumption) (by assumption)) (As := []) (rest := []) rfl rfl ml_X0_165 im_X0_lineUpAskers se_X0_lineUpAskers ini_X0 cd_X0_lineUpAskers ⟨rfl, na_X0_lineUpAskers⟩ jB_blind (hW.recv hK (show jV M 0 0 from rfl) rfl) (jB_at hX hRf hW hS) hl.1 (Nat.le_of_ble_eq_true rfl) ⟨Nat.le_of_ble_eq_true rfl, Nat.le_of_ble_eq_true rfl⟩ ⟨by show 0 + (uC E 6) ≤ uC E 6; omega, by show 0 + (10 * uC E 6) ≤ 10 * uC E 6; omega⟩ rfl dX0_moveOn_1) hS (fun E1 hp1 H locs hW hS => ?_)
  obtain ⟨E2_, hE2_⟩ : ∃ z, z = E1 := ⟨_, rfl⟩
  rw [← hE2_] at hW hp1
  obtain ⟨hEr, hQ7⟩ := hp1
  have hqn := hQ7.n
  refine lv_iconst (v := 0) hx hb dX0_moveOn_4 (by decide) ?_
  refine lv_istore_n (lv' := [(1, .int 0), (0, .ref (ja 0 0))]) hx hb dX0_moveOn_5 rfl hl (by decide) rfl (fun ls hl => ?_)
  have loop2 : ∀ (n_ : Nat) (j : Nat) (Mj : MS) (H : Heap) (locs : List Loc) (hj : j ≤ eN E2_ 6) (hMj : Mj = goQ M (eL E2_ 6) j) (hW : WJ G d0 Rf ja Mj E2_ H) (hS : va_S (jA Rf) s.heap H locs) (ls : Array Slot), eN E2_ 6 - j < n_ → lv_has ls 3 [(1, .int (nI j)), (0, .ref (ja 0 0))] → W p l e (rmL 7 (uC E 6) (10 * uC E 6)) s m args below meth c H locs (0 + uC E 6) (0 + 10 * uC E 6) Q (F0 m 6 ls []) := by
    intro n_
    induction n_ with
    | zero => intro j Mj H locs hj hMj hW hS ls hm hl; omega
    | succ n_ ih2 =>
      intro j Mj H locs hj hMj hW hS ls hm hl
      have h6 := hI.c.R6
      have hIj : INV B Mj := by rw [hMj, ← (go_goQ hI hQ7 j hj).1]; exact (goGo_inv hI j).1
      have hu18 := hIj.u18
      have hnj : nR Mj = nR M := by rw [hMj]; unfold nR; rw [goQ_row (by decide) (by decide) (by decide) (by decide)]
      refine lv_iload_n hx hb dX0_moveOn_6 rfl (lv_at hl 0 rfl) ?_
      refine lv_aload_n hx hb dX0_moveOn_7 rfl (lv_at hl 1 rfl) ?_
      refine r1_get hC hK.1 (hW.ob (show jV Mj 0 0 from rfl)) lay_X0 rfl 7 (by decide) fl_X0_41 (fun x hx => hx) (v := .ref (ja 10 6)) rfl dX0_moveOn_8 ?_
      refine jw_size hC hK hW.1 (i := 6) (Or.inl (by decide)) ml_X0_44 hl.1 (Nat.le_of_ble_eq_true rfl) ⟨Nat.le_of_ble_eq_true rfl, Nat.le_of_ble_eq_true rfl, (by show 0 + uC E 6 ≤ uC E 6; omega), (by show 0 + 10 * uC E 6 ≤ 10 * uC E 6; omega)⟩ dX0_moveOn_11 ?_
      refine top_i (y := nI (eN E2_ 6)) rfl ?_
      refine ln_ge (tgt := 55) (a := j) (b := (eN E2_ 6)) hx hb dX0_moveOn_14 (by decide) rfl rfl (by omega) (by omega) (fun c_3t => ?_) (fun c_3f => ?_)
      · subst hQ
        rw [show Mj = goF M from (by rw [hMj, show j = eN E2_ 6 by omega]; exact goF_Q hI hQ7)] at hW
        exact rt_qv E2_ hx hb hr hlk hS (hEr) (fun t ht _ => by show WJ G d0 Rf ja _ _ t.heap; rw [ht]; exact hW) (by show 0 + uC E 6 ≤ uC E 6; omega) (by show 0 + 10 * uC E 6 ≤ 10 * uC E 6; omega) dX0_moveOn_55
      · refine lv_aload_n hx hb dX0_moveOn_17 rfl (lv_at hl 1 rfl) ?_
        refine r1_get hC hK.1 (hW.ob (show jV Mj 0 0 from rfl)) lay_X0 rfl 7 (by decide) fl_X0_41 (fun x hx => hx) (v := .ref (ja 10 6)) rfl dX0_moveOn_18 ?_
        refine lv_iload_n hx hb dX0_moveOn_21 rfl (lv_at hl 0 rfl) ?_
        refine jw_get hC hK hW.1 (i := 6) (j := j) (Or.inl (by decide)) (show j < jn Mj E2_ 6 from (by show j < eN E2_ 6; omega)) ml_X0_48 hl.1 (Nat.le_of_ble_eq_true rfl) ⟨Nat.le_of_ble_eq_true rfl, Nat.le_of_ble_eq_true rfl, (by show 0 + uC E 6 ≤ uC E 6; omega), (by show 0 + 10 * uC E 6 ≤ 10 * uC E 6; omega)⟩ dX0_moveOn_22 ?_
        have hv6_4 : eL E2_ 6 j < nR Mj := hW.el (i := 6) (Or.inl (by decide)) (j := j) (by show j < eN E2_ 6; omega)
        refine jw_cast hC hK (hW.ob (show jV Mj 5 (eL E2_ 6 j) from hv6_4)) rfl cl_X0_52 dX0_moveOn_25 ?_
        refine lv_astore_n (lv' := [(2, .ref (ja 5 (eL E2_ 6 j))), (1, .int (nI j)), (0, .ref (ja 0 0))]) hx hb dX0_moveOn_28 rfl hl (by decide) rfl (fun ls hl => ?_)
        refine lv_aload_n hx hb dX0_moveOn_29 rfl (lv_at hl 2 rfl) ?_
        refine lv_aload_n hx hb dX0_moveOn_30 rfl (lv_at hl 0 rfl) ?_
        refine r1_get hC hK.1 (hW.ob (show jV Mj 5 (eL E2_ 6 j) from hv6_4)) lay_X5 rfl 6 (by decide) fl_X0_125 (fun x hx => hx) (v := .int (Mj 24 (eL E2_ 6 j))) rfl dX0_moveOn_31 ?_
        refine cl_p (run_V hC (cJ_X0_robotAt l G d0 mi Rf ja Mj E2_ (Mj 24 (eL E2_ 6 j)) hu18) (As := [.int (Mj 24 (eL E2_ 6 j))]) (rest := []) rfl rfl ml_X0_128 im_X0_robotAt se_X0_robotAt ini_X0 cd_X0_robotAt ⟨rfl, na_X0_robotAt⟩ jB_blind (hW.recv hK (show jV Mj 0 0 from rfl) rfl) (jB_at hX hRf hW hS) hl.1 (Nat.le_of_ble_eq_true rfl) ⟨Nat.le_of_ble_eq_true rfl, Nat.le_of_ble_eq_true rfl⟩ ⟨by show (0 + uC E 6) + 0 ≤ uC E 6; omega, by show (0 + 10 * uC E 6) + 0 ≤ 10 * uC E 6; omega⟩ rfl dX0_moveOn_34) ?_
        rcases ho5 : rbA Mj (Mj 24 (eL E2_ 6 j)) with _ | k5
        · refine top_v (y := .null) rfl ?_
          refine lv_ifnonnullN hx hb dX0_moveOn_37 ?_
          refine lv_aload_n hx hb dX0_moveOn_40 rfl (lv_at hl 2 rfl) ?_
          refine lv_aload_n hx hb dX0_moveOn_41 rfl (lv_at hl 0 rfl) ?_
          refine lv_aload_n hx hb dX0_moveOn_42 rfl (lv_at hl 0 rfl) ?_
          refine r1_get hC hK.1 (hW.ob (show jV Mj 5 (eL E2_ 6 j) from hv6_4)) lay_X5 rfl 6 (by decide) fl_X0_125 (fun x hx => hx) (v := .int (Mj 24 (eL E2_ 6 j))) rfl dX0_moveOn_43 ?_
          refine jcl_v (run_V hC (cJ_X0_moveRobot l G d0 mi Rf ja Mj E2_ (eL E2_ 6 j) (Mj 24 (eL E2_ 6 j)) (show (eL E2_ 6 j) < nR Mj from hv6_4)) (As := [.ref (ja 5 (eL E2_ 6 j)), .int (Mj 24 (eL E2_ 6 j))]) (rest := []) rfl rfl ml_X0_135 im_X0_moveRobot se_X0_moveRobot ini_X0 cd_X0_moveRobot ⟨rfl, na_X0_moveRobot⟩ jB_blind (hW.recv hK (show jV Mj 0 0 from rfl) rfl) (jB_at hX hRf hW hS) hl.1 (Nat.le_of_ble_eq_true rfl) ⟨Nat.le_of_ble_eq_true rfl, Nat.le_of_ble_eq_true rfl⟩ ⟨by show (0 + uC E 6) + 0 ≤ uC E 6; omega, by show (0 + 10 * uC E 6) + 0 ≤ 10 * uC E 6; omega⟩ rfl dX0_moveOn_46) hS (fun H locs hW hS => ?_)
          refine lv_iinc (v := nI (j + 1)) (lv' := [(1, .int (nI (j + 1))), (2, .ref (ja 5 (eL E2_ 6 j))), (0, .ref (ja 0 0))]) hx hb dX0_moveOn_49 hl (k := 1) rfl (nI_inc _) (by decide) rfl (fun ls hl => ?_)
          refine lv_goto (tgt := 6) hx hb dX0_moveOn_52 (by decide) ?_
          have hM10 : (mvF Mj (eL E2_ 6 j) (Mj 24 (eL E2_ 6 j))) = goQ M (eL E2_ 6) (j + 1) := by rw [goQ, ← hMj]; exact (if_pos ho5).symm
          exact ih2 (j + 1) (mvF Mj (eL E2_ 6 j) (Mj 24 (eL E2_ 6 j))) H locs (by omega) hM10 hW hS ls (by omega) (lv_sub hl [0, 2] rfl)
        · refine top_v (y := .ref (ja 5 k5)) rfl ?_
          have hlt_k5 := (lastE_lt ho5).1
          refine lv_ifnonnull (tgt := 49) hx hb dX0_moveOn_37 (by decide) ?_
          refine lv_iinc (v := nI (j + 1)) (lv' := [(1, .int (nI (j + 1))), (2, .ref (ja 5 (eL E2_ 6 j))), (0, .ref (ja 0 0))]) hx hb dX0_moveOn_49 hl (k := 1) rfl (nI_inc _) (by decide) rfl (fun ls hl => ?_)
          refine lv_goto (tgt := 6) hx hb dX0_moveOn_52 (by decide) ?_
          have hM10 : Mj = goQ M (eL E2_ 6) (j + 1) := by rw [goQ, ← hMj]; exact (if_neg (fun q => by rw [ho5] at q; cases q)).symm
          exact ih2 (j + 1) Mj H locs (by omega) hM10 hW hS ls (by omega) (lv_sub hl [0, 2] rfl)
  exact loop2 ((eN E2_ 6 - 0) + 1) 0 M H locs (Nat.zero_le _) rfl hW hS ls (by omega) (lv_sub hl [0, 1] rfl)
