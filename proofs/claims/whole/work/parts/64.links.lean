/-! ANSWERS OF THE CLASS AND OF THE REFERENCE -/
theorem carA_some {M : MS} (hu : uq21 M) {t r : Nat} (ht : t < 2147483648) (hr : r < nR M) (h : M 21 r = nI t) : carA M t = if M 20 r = 1 then none else some r := by
  have hrt : rtA M t = some r := by
    cases hc : rtA M t with
    | none => exact absurd h (lastE_none.mp (show lastE (M 21) (nI t) (nR M) = none from hc) r hr)
    | some q =>
      obtain ⟨a, b⟩ := lastE_lt (show lastE (M 21) (nI t) (nR M) = some q from hc)
      rw [hu q r a hr (by rw [b, h]) (by rw [b]; exact nI_m1 ht)]
  unfold carA
  rw [hrt]
theorem rwA_car {M : MS} (hu : uq21 M) {t : Nat} (ht : t < 2147483648) : rwA M (nI t) false = carA M t := by
  cases hc : rtA M t with
  | none =>
    have hn := lastE_none.mp (show lastE (M 21) (nI t) (nR M) = none from hc)
    rw [show carA M t = none by unfold carA; rw [hc]]
    exact lastP_none.mpr (fun k hk => by rw [decide_eq_false (hn k hk), Bool.false_and])
  | some r =>
    obtain ⟨hr, h21⟩ := lastE_lt (show lastE (M 21) (nI t) (nR M) = some r from hc)
    rw [carA_some hu ht hr h21]
    have huq : ∀ k, k < nR M → M 21 k = nI t → k = r := fun k hk e => hu k r hk hr (by rw [e, h21]) (by rw [e]; exact nI_m1 ht)
    by_cases h1 : M 20 r = 1
    · rw [if_pos h1]
      refine lastP_none.mpr (fun k hk => ?_)
      by_cases e : M 21 k = nI t
      · have := huq k hk e
        rw [this, decide_eq_true h1]
        simp
      · rw [decide_eq_false e, Bool.false_and]
    · rw [if_neg h1]
      cases hp : lastP (fun k => decide (M 21 k = nI t) && (decide (M 20 k = 1) == false)) (nR M) with
      | none =>
        have := lastP_none.mp hp r hr
        rw [decide_eq_true h21, decide_eq_false h1] at this
        simp at this
      | some q =>
        obtain ⟨a, b⟩ := lastP_lt hp
        rw [Bool.and_eq_true, decide_eq_true_eq] at b
        have := huq q a b.1
        show lastP (fun k => decide (M 21 k = nI t) && (decide (M 20 k = 1) == false)) (nR M) = some r
        rw [hp, this]
theorem tc_lk {M : MS} (hu : uq21 M) {t : Nat} (ht : t < 2147483648) (hT : tT M (nI t) = 0) : tcR M (nI t) = tcC M t := by
  unfold tcR tcC
  rw [if_pos hT, rwA_car hu ht, ix_nI ht]
  cases carA M t <;> rfl
def clP (M : MS) (s : Nat) (k : Nat) : Bool := VL M k && decide (M 14 k = nI s)
theorem cntC_ct (M : MS) (s : Nat) : ∀ n, cntC M (nI s) n = fb_ct (clP M s) n
  | 0 => rfl
  | n + 1 => by
    rw [fb_ct_succ, ← cntC_ct M s n]
    by_cases h : VL M n = true ∧ M 14 n = nI s
    · rw [cntC_t h.1 h.2, if_pos (show clP M s n = true by unfold clP; rw [h.1, decide_eq_true h.2]; rfl)]
    · rw [cntC_f h, if_neg (show ¬ clP M s n = true from fun z => h (by unfold clP at z; rw [Bool.and_eq_true, decide_eq_true_eq] at z; exact z))]
      rfl
/-- how many lines a station has claimed -/
theorem CL.cnt {B : Nat} {M : MS} {E : ES} (hc : CL M E) (hI : INV B M) {s : Nat} (hs : s < nS M) : cntC M (nI s) 30 = eN E (17 + s) := by
  obtain ⟨x1, x2, x3⟩ := hc s hs
  rw [cntC_ct]
  have hp : ∀ j, j < eN E (17 + s) → clP M s (eL E (17 + s) j) = true ∧ eL E (17 + s) j < 30 := fun j hj => by
    obtain ⟨a, b⟩ := x1 j hj
    exact ⟨by unfold clP; rw [a, decide_eq_true b]; rfl, VL_lt hI.c a⟩
  have h1 : eN E (17 + s) ≤ fb_ct (clP M s) 30 := fb_holes (fb_ct (clP M s) 30) (eN E (17 + s)) (fun j => fb_ct (clP M s) (eL E (17 + s) j)) (fun j hj => by
    obtain ⟨a, b⟩ := hp j hj
    have h2 := fb_ct_mono (clP M s) (show eL E (17 + s) j + 1 ≤ 30 by omega)
    rw [fb_ct_succ, if_pos a] at h2
    show fb_ct (clP M s) (eL E (17 + s) j) < _
    omega) (fun i j hij hj e => by
    have := fb_ct_kth_one (hp i (by omega)).1 (hp j hj).1 e
    have := hc.inj hs (by omega) hj this
    omega)
  have hex : ∀ k, k < fb_ct (clP M s) 30 → ∃ j, j < eN E (17 + s) ∧ fb_ct (clP M s) (eL E (17 + s) j) = k := fun k hk => by
    obtain ⟨i, hi, pi, ci⟩ := fb_ct_kth hk
    have pi' := pi
    unfold clP at pi'
    rw [Bool.and_eq_true, decide_eq_true_eq] at pi'
    obtain ⟨j, hj, ej⟩ := x2 i pi'.1 pi'.2
    exact ⟨j, hj, by rw [ej]; exact ci⟩
  have h2 : fb_ct (clP M s) 30 ≤ eN E (17 + s) := by
    let g : Nat → Nat := fun k => if h : k < fb_ct (clP M s) 30 then Classical.choose (hex k h) else 0
    have hg : ∀ k, k < fb_ct (clP M s) 30 → g k < eN E (17 + s) ∧ fb_ct (clP M s) (eL E (17 + s) (g k)) = k := fun k hk => by
      have := Classical.choose_spec (hex k hk)
      show (if h : k < fb_ct (clP M s) 30 then Classical.choose (hex k h) else 0) < _ ∧ fb_ct (clP M s) (eL E (17 + s) (if h : k < fb_ct (clP M s) 30 then Classical.choose (hex k h) else 0)) = k
      rw [dif_pos hk]
      exact this
    exact fb_holes (eN E (17 + s)) (fb_ct (clP M s) 30) g (fun i hi => (hg i hi).1) (fun i j hij hj e => by
      have a := (hg i (by omega)).2
      have b := (hg j hj).2
      rw [e, b] at a
      omega)
  omega
