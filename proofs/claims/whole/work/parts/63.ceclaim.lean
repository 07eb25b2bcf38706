/-! CLAIMS: the class's lists and the reference's numbers -/
theorem chE_eq {E : ES} {i n c : Nat} {f : Nat → Nat} (i' : Nat) : eN (chE E i n f c) i' = (if i' = i then n else eN E i') ∧ eL (chE E i n f c) i' = (if i' = i then f else eL E i') := ⟨rfl, rfl⟩
theorem CL_clm {B : Nat} {M : MS} {E : ES} {s K c9 : Nat} (hc : CL M E) (hI : INV B M) (hB : B + 1 < 2147483648) (hs : s < nS M) (hv : VL M K = true) (h14 : M 14 K = -1) : CL (clX M s K) (chE E (17 + s) (eN E (17 + s) + 1) (fup (eL E (17 + s)) (eN E (17 + s)) K) c9) := by
  have h3 := hI.c.S3
  have hC := hI.f.2.2.2.2.2.2.1
  have e14 : clX M s K 14 = upd (M 14) K (nI s) := rfl
  have e15 : clX M s K 15 = upd (M 15) K (M 16 0 + 1) := rfl
  have hnew : M 16 0 + 1 = nI (nC M + 1) := by rw [hC.1, nI_1]
  have hneK : ∀ (s' : Nat) (j : Nat), s' < nS M → j < eN E (17 + s') → eL E (17 + s') j ≠ K := fun s' j hs' hj e => by
    have := ((hc s' hs').1 j hj).2
    rw [e, h14] at this
    exact nI_m1 (by omega) this.symm
  intro s' hs'
  have hs' : s' < nS M := hs'
  obtain ⟨x1, x2, x3⟩ := hc s' hs'
  have hk := hneK s'
  rw [(chE_eq (17 + s')).1, (chE_eq (17 + s')).2, e14, e15]
  show (∀ j, j < _ → VL M _ = true ∧ _) ∧ (∀ k, VL M k = true → _ → _) ∧ _
  by_cases z : s' = s
  · subst z
    rw [if_pos rfl, if_pos rfl]
    refine ⟨fun j hj => ?_, fun k hkv hk14 => ?_, fun a b hab hb => ?_⟩
    · unfold fup
      by_cases y : j = eN E (17 + s')
      · rw [if_pos y, upd_s]; exact ⟨hv, rfl⟩
      · rw [if_neg y, upd_n _ _ (hk j hs' (by omega))]; exact x1 j (by omega)
    · by_cases y : k = K
      · exact ⟨eN E (17 + s'), by omega, by unfold fup; rw [if_pos rfl, y]⟩
      · rw [upd_n _ _ y] at hk14
        obtain ⟨j, hj, ej⟩ := x2 k hkv hk14
        exact ⟨j, by omega, by unfold fup; rw [if_neg (by omega)]; exact ej⟩
    · unfold fup
      rw [if_neg (show ¬ a = eN E (17 + s') by omega), upd_n _ _ (hk a hs' (by omega))]
      by_cases y : b = eN E (17 + s')
      · rw [if_pos y, upd_s, hnew]
        obtain ⟨w1, w2⟩ := x1 a (by omega)
        rcases (hI.f.2.2.2.1 _ w1).2.2 with q | ⟨s9, c8, -, -, q3, q4, q5⟩
        · rw [q] at w2; exact absurd w2.symm (nI_m1 (by omega))
        · rw [q5, nI_toInt (by omega), nI_toInt (by omega)]; omega
      · rw [if_neg y, upd_n _ _ (hk b hs' (by omega))]
        exact x3 a b hab (by omega)
  · rw [if_neg (by omega), if_neg (by omega)]
    refine ⟨fun j hj => ?_, fun k hkv hk14 => ?_, fun a b hab hb => ?_⟩
    · rw [upd_n _ _ (hk j hs' hj)]; exact x1 j hj
    · by_cases y : k = K
      · rw [y, upd_s] at hk14
        exact absurd ((nI_eq (by omega) (by omega)).mp hk14).symm z
      · rw [upd_n _ _ y] at hk14
        exact x2 k hkv hk14
    · rw [upd_n _ _ (hk a hs' (by omega)), upd_n _ _ (hk b hs' hb)]
      exact x3 a b hab hb
theorem CE_clm {B : Nat} {M : MS} {E : ES} {s K c9 : Nat} (hc : CE M E) (hI : INV B M) (hB : B + 1 < 2147483648) (hs : s < nS M) (hv : VL M K = true) (h14 : M 14 K = -1) : CE (clX M s K) (chE E (17 + s) (eN E (17 + s) + 1) (fup (eL E (17 + s)) (eN E (17 + s)) K) c9) :=
  ⟨hc.1.rows rfl rfl rfl rfl, hc.2.1.rows rfl rfl rfl rfl, CL_clm hc.2.2.1 hI hB hs hv h14, hc.2.2.2.keep rfl rfl rfl PK.rf rfl⟩
/-- of a list of claims nothing stands there twice -/
theorem CL.inj {M : MS} {E : ES} (hc : CL M E) {s i j : Nat} (hs : s < nS M) (hi : i < eN E (17 + s)) (hj : j < eN E (17 + s)) (e : eL E (17 + s) i = eL E (17 + s) j) : i = j := by
  obtain ⟨x1, x2, x3⟩ := hc s hs
  rcases Nat.lt_trichotomy i j with q | q | q
  · have := x3 i j q hj; rw [e] at this; omega
  · exact q
  · have := x3 j i q hi; rw [e] at this; omega
theorem gv_rows (M : MS) (K : Nat) : gvX M K 14 = upd (M 14) K (-1) ∧ (∀ k, k ≠ 14 → rob k = false → gvX M K k = M k) ∧ ∀ r, r < nR M → gvX M K 18 r = M 18 r := by
  unfold gvX
  cases wlA M K with
  | none => exact ⟨mset_s M 14 K (-1), fun k hk _ => mset_n M K (-1) hk, fun r _ => rfl⟩
  | some r =>
    refine ⟨rfl, fun k hk hb => ?_, fun r _ => rfl⟩
    have e : ∀ q, rob q = true → k ≠ q := fun q hq a => by rw [a, hq] at hb; cases hb
    show mset (becF M r (if M 20 r = 1 then 0 else 4)) 14 K (-1) k = M k
    unfold becF
    rw [mset_n _ _ _ hk, mset_n _ _ _ (e 21 rfl), mset_n _ _ _ (e 22 rfl), mset_n _ _ _ (e 24 rfl), mset_n _ _ _ (e 23 rfl), mset_n _ _ _ (e 20 rfl)]
theorem CL_gv {M : MS} {E E2 : ES} {s K : Nat} (hc : CL M E) (hs3 : nS M ≤ 3) (hs : s < nS M) (h14 : M 14 K = nI s) (hF : FG E s K E2) : CL (gvX M K) E2 := by
  obtain ⟨j0, hj0, ej0, rfl⟩ := hF
  obtain ⟨g14, gr, -⟩ := gv_rows M K
  have eS : nS (gvX M K) = nS M := by unfold nS; rw [gr 4 (by decide) rfl]
  have eV : VL (gvX M K) = VL M := VL_rows (gr 10 (by decide) rfl) (gr 11 (by decide) rfl)
  have hm1 : nI s ≠ -1 := nI_m1 (by omega)
  intro s' hs'
  rw [eS] at hs'
  obtain ⟨x1, x2, x3⟩ := hc s' hs'
  rw [(chE_eq (17 + s')).1, (chE_eq (17 + s')).2, g14, gr 15 (by decide) rfl, eV]
  by_cases z : s' = s
  · subst z
    rw [if_pos rfl, if_pos rfl]
    have hne : ∀ i, i < eN E (17 + s') → i ≠ j0 → eL E (17 + s') i ≠ K := fun i hi hne e => hne (hc.inj hs hi hj0 (by rw [e, ej0]))
    refine ⟨fun j hj => ?_, fun k hkv hk14 => ?_, fun a b hab hb => ?_⟩
    · unfold frm
      by_cases y : j < j0
      · rw [if_pos y, upd_n _ _ (hne j (by omega) (by omega))]; exact x1 j (by omega)
      · rw [if_neg y, upd_n _ _ (hne (j + 1) (by omega) (by omega))]; exact x1 (j + 1) (by omega)
    · by_cases y : k = K
      · rw [y, upd_s] at hk14; exact absurd hk14.symm hm1
      · rw [upd_n _ _ y] at hk14
        obtain ⟨j, hj, ej⟩ := x2 k hkv hk14
        have hjj : j ≠ j0 := fun w => y (by rw [← ej, w, ej0])
        by_cases w : j < j0
        · exact ⟨j, by omega, by unfold frm; rw [if_pos w]; exact ej⟩
        · exact ⟨j - 1, by omega, by unfold frm; rw [if_neg (by omega), show j - 1 + 1 = j by omega]; exact ej⟩
    · unfold frm
      by_cases y : a < j0
      · rw [if_pos y]
        by_cases w : b < j0
        · rw [if_pos w]; exact x3 a b hab (by omega)
        · rw [if_neg w]; exact x3 a (b + 1) (by omega) (by omega)
      · rw [if_neg y, if_neg (show ¬ b < j0 by omega)]
        exact x3 (a + 1) (b + 1) (by omega) (by omega)
  · rw [if_neg (by omega), if_neg (by omega)]
    refine ⟨fun j hj => ?_, fun k hkv hk14 => ?_, x3⟩
    · obtain ⟨w1, w2⟩ := x1 j hj
      have hne : eL E (17 + s') j ≠ K := fun e => by
        rw [e, h14] at w2
        exact z ((nI_eq (by omega) (by omega)).mp w2).symm
      rw [upd_n _ _ hne]; exact ⟨w1, w2⟩
    · by_cases y : k = K
      · rw [y, upd_s] at hk14; exact absurd hk14.symm (nI_m1 (by omega))
      · rw [upd_n _ _ y] at hk14
        exact x2 k hkv hk14
theorem CE_gv {B : Nat} {M : MS} {E E2 : ES} {s K : Nat} (hc : CE M E) (hI : INV B M) (hs : s < nS M) (hK : K < 30) (h14 : M 14 K = nI s) (hF : FG E s K E2) : CE (gvX M K) E2 := by
  have hF' := hF
  obtain ⟨j0, hj0, ej0, rfl⟩ := hF'
  obtain ⟨g14, gr, -⟩ := gv_rows M K
  refine ⟨?_, ?_, CL_gv hc.2.2.1 hI.c.S3 hs h14 hF, hc.2.2.2.keep (gr 6 (by decide) rfl) (gr 8 (by decide) rfl) (gr 32 (by decide) rfl) ⟨gr 33 (by decide) rfl, gr 34 (by decide) rfl, gr 35 (by decide) rfl⟩ rfl⟩
  · have hd : DK M (gvX M K) := by
      unfold gvX
      cases hw : wlA M K with
      | none => exact DK_rows rfl rfl rfl rfl (fun _ _ _ => rfl)
      | some r =>
        obtain ⟨hr, h22⟩ := lastE_lt (show lastE (M 22) (nI K) (nR M) = some r from hw)
        have h5 : ¬ M 20 r = 5 := fun z => by
          rcases (hI.r.1 r hr).2.1 with a | a | a | a
          · rw [z] at a; exact absurd a.1 (by decide)
          · rw [z] at a; exact absurd a.1 (by decide)
          · rw [z] at a; exact absurd a.1 (by decide)
          · rw [h22] at a; exact nI_m1 (by omega) a.2.2
        have d1 : DK M (becF M r (if M 20 r = 1 then 0 else 4)) := DK_one (r := r) (bec_off _ _ _) h5 (by rw [bec_20]; split <;> decide)
        exact d1.tr (DK_rows rfl rfl rfl rfl (fun _ _ _ => rfl))
    exact hc.1.keep hd rfl
  · have ha : AK M (gvX M K) := by
      unfold gvX
      cases hw : wlA M K with
      | none => exact ⟨rfl, rfl, fun _ _ => Or.inr rfl⟩
      | some r => exact (AK_bec M r _).tr ⟨rfl, rfl, fun _ _ => Or.inr rfl⟩
    exact hc.2.1.keep ha rfl
theorem CL.lt {B : Nat} {M : MS} {E : ES} (hc : CL M E) (hI : INV B M) {s K : Nat} (hs : s < nS M) (hv : VL M K = true) (h14 : M 14 K = -1) : eN E (17 + s) < 30 := by
  have h3 := hI.c.S3
  have := fb_holes 30 (eN E (17 + s) + 1) (fup (eL E (17 + s)) (eN E (17 + s)) K) (fun i hi => by
    unfold fup
    by_cases y : i = eN E (17 + s)
    · rw [if_pos y]; exact VL_lt hI.c hv
    · rw [if_neg y]; exact VL_lt hI.c ((hc s hs).1 i (by omega)).1) (fun i j hij hj e => by
    unfold fup at e
    rw [if_neg (by omega)] at e
    by_cases y : j = eN E (17 + s)
    · rw [if_pos y] at e
      have := ((hc s hs).1 i (by omega)).2
      rw [e, h14] at this
      exact nI_m1 (by omega) this.symm
    · rw [if_neg y] at e
      have := hc.inj hs (by omega) (by omega) e
      omega)
  omega
