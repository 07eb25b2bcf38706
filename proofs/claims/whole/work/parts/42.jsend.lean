/-! POINT 3: robots are sent -/
noncomputable def ntF (M : MS) (g : Int32) (f t : Nat) : Option (Nat × Nat) := if M 8 t = g ∧ ¬ M 9 t ≤ 0 ∧ rtA M t = none then (dGM M f (ix (M 7 t))).map (fun n => (t, n)) else none
theorem rw_rt {M : MS} {t : Nat} : (rwA M (nI t) false = none ∧ rwA M (nI t) true = none) ↔ rtA M t = none := by
  unfold rwA rtA
  rw [lastP_none, lastP_none, lastE_none]
  constructor
  · rintro ⟨a, b⟩ k hk q
    have a1 := a k hk
    have b1 := b k hk
    rw [q] at a1 b1
    by_cases e : M 20 k = 1
    · simp [e] at b1
    · simp [e] at a1
  · intro h
    exact ⟨fun k hk => by rw [decide_eq_false (h k hk)]; rfl, fun k hk => by rw [decide_eq_false (h k hk)]; rfl⟩
theorem tf_nt (M : MS) (s k t : Nat) : tfF M s k t = ntF M (M 12 k) (ix (M 5 s)) t := by
  unfold tfF ntF canT
  by_cases h : M 8 t = M 12 k ∧ ¬ M 9 t ≤ 0 ∧ rtA M t = none
  · rw [if_pos h]
    have h3 := rw_rt.mpr h.2.2
    rw [if_pos (by rw [decide_eq_true h.1, decide_eq_true h.2.1, decide_eq_true h3.1, decide_eq_true h3.2]; rfl)]
  · rw [if_neg h, if_neg]
    intro q
    simp only [Bool.and_eq_true, decide_eq_true_eq] at q
    exact h ⟨q.1, q.2.1, rw_rt.mp ⟨q.2.2.1, q.2.2.2⟩⟩
theorem ntF_in {M : MS} {g : Int32} {f z : Nat} {p : Nat × Nat} (hH : ∀ t, t < nT M → isC (M 7 t)) (hf : f < 64) (hz : z < nT M) (e : ntF M g f z = some p) : p.1 < nT M ∧ p.2 ≤ 64 := by
  unfold ntF at e
  split at e
  · cases hd : dGM M f (ix (M 7 z)) with
    | none => rw [hd] at e; cases e
    | some n =>
      rw [hd] at e; cases e
      obtain ⟨j, hj, ej⟩ := hH z hz
      rw [ej, ix_nI (by omega)] at hd
      exact ⟨hz, dGM_64 hf hj hd⟩
  · cases e
theorem ntF_n {M : MS} {g : Int32} {f z : Nat} (c : ¬ (M 8 z = g ∧ ¬ M 9 z ≤ 0 ∧ rtA M z = none)) : ntF M g f z = none := if_neg c
theorem ntF_d {M : MS} {g : Int32} {f z : Nat} (c : M 8 z = g ∧ ¬ M 9 z ≤ 0 ∧ rtA M z = none) : ntF M g f z = (dGM M f (ix (M 7 z))).map (fun n => (z, n)) := if_pos c
/-- a station's lines, in the order in which they were claimed -/
def CL (M : MS) (E : ES) : Prop := ∀ s, s < nS M → (∀ j, j < eN E (17 + s) → VL M (eL E (17 + s) j) = true ∧ M 14 (eL E (17 + s) j) = nI s) ∧ (∀ k, VL M k = true → M 14 k = nI s → ∃ j, j < eN E (17 + s) ∧ eL E (17 + s) j = k) ∧ ∀ a b, a < b → b < eN E (17 + s) → (M 15 (eL E (17 + s) a)).toInt < (M 15 (eL E (17 + s) b)).toInt
theorem CL.keep {M M' : MS} {E E' : ES} (h : CL M E) (e4 : nS M' = nS M) (eV : VL M' = VL M) (e14 : M' 14 = M 14) (e15 : M' 15 = M 15) (hE : ∀ i, 7 ≤ i → eN E' i = eN E i ∧ eL E' i = eL E i) : CL M' E' := by
  intro s hs
  rw [e4] at hs
  rw [(hE (17 + s) (by omega)).1, (hE (17 + s) (by omega)).2, eV, e14, e15]
  exact h s hs
theorem kpt.VL {M M' : MS} (h : kpt M M') : VL M' = VL M := by
  funext k
  unfold _root_.Jvm.Pilot.CShelfSwarmLaw_law_r1023_229280.VL nO nL
  rw [h 10 rfl, h 11 rfl]
theorem CL.kp {M M' : MS} {E E' : ES} (h : CL M E) (k : kpt M M') (hE : EK E E') : CL M' E' := h.keep k.eS k.VL (k 14 rfl) (k 15 rfl) hE.2.2.1
theorem CL.n {M : MS} {E : ES} (hc : CNT M) (h : CL M E) {s : Nat} (hs : s < nS M) : eN E (17 + s) ≤ 30 := fb_holes 30 _ (eL E (17 + s)) (fun i hi => VL_lt hc ((h s hs).1 i hi).1) (fun i j hij hj e => by
  have := (h s hs).2.2 i j hij hj
  rw [e] at this
  omega)
/-- behind which the claims of a station have not been gone through -/
def afQ (M : MS) (E : ES) (s i : Nat) : Int32 := match i with
  | 0 => 0
  | i + 1 => M 15 (eL E (17 + s) i)
theorem nl_spec {M : MS} {s af : Int32} : ∀ n, (nlGo M s af n = none ∧ ∀ q, q < n → cndL M s af q = false) ∨ ∃ g, nlGo M s af n = some g ∧ g < n ∧ cndL M s af g = true ∧ ∀ q, q < n → cndL M s af q = true → (M 15 g).toInt ≤ (M 15 q).toInt
  | 0 => Or.inl ⟨rfl, fun q hq => by omega⟩
  | n + 1 => by
    cases hn : cndL M s af n with
    | false =>
      rw [nlGo_f hn]
      rcases nl_spec (M := M) (s := s) (af := af) n with ⟨a, b⟩ | ⟨g, a, b, c, d⟩
      · exact Or.inl ⟨a, fun q hq => by
          by_cases e : q = n
          · rw [e]; exact hn
          · exact b q (by omega)⟩
      · exact Or.inr ⟨g, a, by omega, c, fun q hq hq2 => by
          by_cases e : q = n
          · rw [e, hn] at hq2; cases hq2
          · exact d q (by omega) hq2⟩
    | true =>
      rcases nl_spec (M := M) (s := s) (af := af) n with ⟨a, b⟩ | ⟨g, a, b, c, d⟩
      · refine Or.inr ⟨n, nlGo_n hn a, by omega, hn, fun q hq hq2 => ?_⟩
        by_cases e : q = n
        · rw [e]; exact Int.le_refl _
        · rw [b q (by omega)] at hq2; cases hq2
      · by_cases hl : M 15 n < M 15 g
        · refine Or.inr ⟨n, nlGo_lt hn a hl, by omega, hn, fun q hq hq2 => ?_⟩
          have hl2 := Int32.lt_iff_toInt_lt.mp hl
          by_cases e : q = n
          · rw [e]; exact Int.le_refl _
          · have := d q (by omega) hq2; omega
        · refine Or.inr ⟨g, nlGo_ge hn a hl, by omega, c, fun q hq hq2 => ?_⟩
          by_cases e : q = n
          · rw [e]
            have : ¬ (M 15 n).toInt < (M 15 g).toInt := fun z => hl (Int32.lt_iff_toInt_lt.mpr z)
            omega
          · exact d q (by omega) hq2
theorem nl_cl {B : Nat} {M : MS} {E : ES} (hB : B < 2147483648) (hI : INV B M) (h : CL M E) {s i : Nat} (hs : s < nS M) : nlGo M (nI s) (afQ M E s i) 30 = if i < eN E (17 + s) then some (eL E (17 + s) i) else if i = 0 ∨ i ≤ eN E (17 + s) then none else nlGo M (nI s) (afQ M E s i) 30 := by
  obtain ⟨h1, h2, h3⟩ := h s hs
  have h16 : (M 16 0).toInt ≤ 2147483647 := by have := (fb_rng (M 16 0)).2; omega
  have pos : ∀ j, j < eN E (17 + s) → 0 < (M 15 (eL E (17 + s) j)).toInt := fun j hj => by
    obtain ⟨a, b⟩ := h1 j hj
    rcases (hI.f.2.2.2.1 _ a).2.2 with q | ⟨s', c, -, -, h0, hc, e⟩
    · rw [q] at b; exact absurd b.symm (nI_m1 (by have := hI.c.S3; omega))
    · have := hI.f.2.2.2.2.2.2.1.2
      rw [e, nI_toInt (by omega)]; omega
  have gt : ∀ j, j < eN E (17 + s) → i ≤ eN E (17 + s) → (cndL M (nI s) (afQ M E s i) (eL E (17 + s) j) = true ↔ i ≤ j) := fun j hj hi => by
    obtain ⟨a, b⟩ := h1 j hj
    unfold cndL
    rw [a, b, decide_eq_true (rfl : nI s = nI s), Bool.true_and, Bool.true_and, decide_eq_true_eq, Int32.le_iff_toInt_le]
    cases i with
    | zero =>
      have := pos j hj
      have e0 : (afQ M E s 0).toInt = 0 := by show (0 : Int32).toInt = 0; decide
      rw [e0]
      exact ⟨fun _ => Nat.zero_le _, fun _ => by omega⟩
    | succ i =>
      show ¬ (M 15 (eL E (17 + s) j)).toInt ≤ (M 15 (eL E (17 + s) i)).toInt ↔ _
      rcases Nat.lt_trichotomy i j with q | q | q
      · have := h3 i j q hj; exact ⟨fun _ => q, fun _ => by omega⟩
      · subst q; exact ⟨fun z => absurd (Int.le_refl _) z, fun z => by omega⟩
      · have := h3 j i q (by omega); exact ⟨fun z => by omega, fun z => by omega⟩
  have all : ∀ q, q < 30 → cndL M (nI s) (afQ M E s i) q = true → ∃ j, j < eN E (17 + s) ∧ eL E (17 + s) j = q := fun q _ hq => by
    unfold cndL at hq
    simp only [Bool.and_eq_true, decide_eq_true_eq] at hq
    exact h2 q hq.1 hq.2.1
  by_cases c : i < eN E (17 + s)
  · rw [if_pos c]
    have hv := VL_lt hI.c (h1 i c).1
    rcases nl_spec (M := M) (s := nI s) (af := afQ M E s i) 30 with ⟨a, b⟩ | ⟨g, a, b, c9, d⟩
    · have := b _ hv
      rw [(gt i c (by omega)).mpr (Nat.le_refl _)] at this; cases this
    · rw [a]
      obtain ⟨j, hj, ej⟩ := all g b c9
      rw [← ej] at c9 d ⊢
      have hij := (gt j hj (by omega)).mp c9
      have hle := d _ hv ((gt i c (by omega)).mpr (Nat.le_refl _))
      congr 2
      rcases Nat.lt_or_ge i j with q | q
      · have := h3 i j q hj; omega
      · omega
  · rw [if_neg c]
    by_cases c2 : i = 0 ∨ i ≤ eN E (17 + s)
    · rw [if_pos c2]
      rcases nl_spec (M := M) (s := nI s) (af := afQ M E s i) 30 with ⟨a, b⟩ | ⟨g, a, b, c9, d⟩
      · exact a
      · obtain ⟨j, hj, ej⟩ := all g b c9
        rw [← ej] at c9
        have := (gt j hj (by omega)).mp c9
        omega
    · rw [if_neg c2]
theorem mset_cm (M : MS) {k k' : Nat} (i j : Nat) (v w : Int32) (h : k ≠ k') : mset (mset M k i v) k' j w = mset (mset M k' j w) k i v := by
  funext q
  by_cases a : q = k
  · subst a; rw [mset_n _ _ _ h, mset_s, mset_s, mset_n _ _ _ h]
  · by_cases b : q = k'
    · subst b; rw [mset_s, mset_n _ _ _ a, mset_n _ _ _ a, mset_s]
    · rw [mset_n _ _ _ b, mset_n _ _ _ a, mset_n _ _ _ a, mset_n _ _ _ b]
theorem fet_eq (M : MS) (r t k : Nat) : bcM (mset (mset M 21 r (nI t)) 22 r (nI k)) r 1 = becF (mset (mset M 22 r (nI k)) 21 r (nI t)) r 1 := by
  rw [mset_cm M r r _ _ (show (21 : Nat) ≠ 22 by decide)]
  exact (bec_bc (if_pos (Or.inl rfl)) (if_neg (by decide))).symm
theorem snd_eq {M : MS} {s k : Nat} {p q : Nat × Nat} (h1 : trayB M s k = some p) (h2 : robB M (ix (M 7 p.1)) = some q) : sndF M s k = some (becF (mset (mset M 22 q.1 (nI k)) 21 q.1 (nI p.1)) q.1 1) := by
  unfold sndF; rw [h1]; dsimp only; rw [h2]
theorem snd_n1 {M : MS} {s k : Nat} (h1 : trayB M s k = none) : sndF M s k = none := by unfold sndF; rw [h1]
theorem snd_n2 {M : MS} {s k : Nat} {p : Nat × Nat} (h1 : trayB M s k = some p) (h2 : robB M (ix (M 7 p.1)) = none) : sndF M s k = none := by unfold sndF; rw [h1]; dsimp only; rw [h2]
theorem trB_nt (M : MS) (s k : Nat) : trayB M s k = bst (ntF M (M 12 k) (ix (M 5 s))) (nT M) := by
  unfold trayB
  exact bst_cg (fun i _ => tf_nt M s k i)
theorem DK_srv {B : Nat} {M : MS} {s : Nat} (hI : INV B M) : DK M (srvF M s) ∧ AK M (srvF M s) := by
  unfold srvF
  split
  · exact ⟨DK.rf, AK.rf⟩
  · have : ∀ f af, DK M (srvW s f M af) ∧ AK M (srvW s f M af) := by
      intro f
      induction f with
      | zero => intro af; exact ⟨DK.rf, AK.rf⟩
      | succ f ih =>
        intro af
        cases hn : nlGo M (nI s) af 30 with
        | none => rw [srvW_none hn]; exact ⟨DK.rf, AK.rf⟩
        | some k =>
          by_cases hl : M 13 k ≤ 0
          · rw [srvW_skip hn hl]; exact ih _
          · cases hs : sndF M s k with
            | none => rw [srvW_no hn hl hs]; exact ih _
            | some M' =>
              rw [srvW_yes hn hl hs]
              cases h1 : trayB M s k with
              | none => rw [snd_n1 h1] at hs; cases hs
              | some p =>
                cases h2 : robB M (ix (M 7 p.1)) with
                | none => rw [snd_n2 h1 h2] at hs; cases hs
                | some q =>
                  rw [snd_eq h1 h2] at hs
                  cases hs
                  have h0 := (robB_lt h2).2
                  refine ⟨DK_one (r := q.1) ((((((offR.rf.set rfl).set rfl).set rfl).set rfl).set rfl).set rfl |>.set rfl) (by rw [h0]; decide) (by rw [bec_20]; decide), ?_⟩
                  exact (show AK M (mset (mset M 22 q.1 (nI k)) 21 q.1 (nI p.1)) from ⟨rfl, rfl, fun _ _ => Or.inr rfl⟩).tr (AK_bec _ _ _)
    exact this _ _
set_option maxHeartbeats 4000000 in
set_option maxRecDepth 100000 in
theorem cJ_X8_nearestTray (l : Launch) (G : gG) (d0 mi : Nat) (Rf : Nat → Prop) (ja : Nat → Nat → Nat) (M : MS) (E : ES) (f : Nat) (g : Int32) (B : Nat) (hI : INV B M) (hD : hD_ M E) (h9f : f < 64) : Met l yX8_nearestTray (wB yX8_nearestTray cX8_nearestTray 8 (some (.object "ShelfSwarm$Tray"))) (rmL 4 0 0) (va_Pc [.ref (ja 8 0), .int (nI f), .int g] (jB G d0 mi Rf ja M E)) (k2_QcV (va_rf (Option.map (ja 7) ((bst (ntF M g f) (nT M)).map (fun q => q.1))))) 0 0 fN := by
  refine st_N (own := RX8) (by decide +kernel) rfl (Nat.le_of_ble_eq_true rfl) ?_
  intro p e s m below meth c ls args Q hQ hC hr hlk hnm hl hP
  obtain ⟨hW, hX, hRf⟩ := hP
  have hK := hX.1
  have hx := hC.1
  have hb := hC.2.1
  have hl : lv_has ls 8 [(0, .ref (ja 8 0)), (1, .int (nI f)), (2, .int g)] := hl
  have hS : va_S (jA Rf) s.heap s.heap [] := va_S.rf
  have hu21 := hI.u21
  refine lv_null hx hb dX8_nearestTray_0 ?_
  refine lv_astore_nN (lv' := [(3, .null), (0, .ref (ja 8 0)), (1, .int (nI f)), (2, .int g)]) hx hb dX8_nearestTray_1 rfl hl (by decide) rfl (fun ls hl => ?_)
  refine lv_bipush (v := 64) hx hb dX8_nearestTray_2 (by decide) ?_
  refine lv_istore (lv' := [(4, .int 64), (3, .null), (0, .ref (ja 8 0)), (1, .int (nI f)), (2, .int g)]) hx hb dX8_nearestTray_4 hl (by decide) rfl (fun ls hl => ?_)
  refine lv_iconst (v := 0) hx hb dX8_nearestTray_6 (by decide) ?_
  refine lv_istore (lv' := [(5, .int 0), (4, .int 64), (3, .null), (0, .ref (ja 8 0)), (1, .int (nI f)), (2, .int g)]) hx hb dX8_nearestTray_7 hl (by decide) rfl (fun ls hl => ?_)
  have loop1 : ∀ (n_ : Nat) (i : Nat) (B9 : Option (Nat × Nat)) (hi : i ≤ nT M) (hB : bst (ntF M g f) i = B9) (ls : Array Slot), nT M - i < n_ → lv_has ls 8 [(5, .int (nI i)), (4, .int (nxL B9)), (3, va_rf (Option.map (ja 7) (B9.map (fun q => q.1)))), (0, .ref (ja 8 0)), (1, .int (nI f)), (2, .int g)] → W p l e (rmL 4 0 0) s m args below meth c s.heap [] 0 0 Q (F0 m 9 ls []) := by
    intro n_
    induction n_ with
    | zero => intro i B9 hi hB ls hm hl; omega
    | succ n_ ih1 =>
      intro i B9 hi hB ls hm hl
      have h16 := hI.c.T16
      rcases B9 with _ | ⟨p1, p2⟩
      · have hl : lv_has ls 8 [(5, .int (nI i)), (4, .int 64), (3, .null), (0, .ref (ja 8 0)), (1, .int (nI f)), (2, .int g)] := hl
        refine lv_iload hx hb dX8_nearestTray_9 (lv_at hl 0 rfl) ?_
        refine lv_aload_n hx hb dX8_nearestTray_11 rfl (lv_at hl 3 rfl) ?_
        refine r1_get hC hK.1 (hW.ob (show jV M 8 0 from rfl)) lay_X8 rfl 2 (by decide) fl_X8_23 (fun x hx => hx) (v := .ref (ja 10 1)) rfl dX8_nearestTray_12 ?_
        refine jw_size hC hK hW.1 (i := 1) (Or.inl (by decide)) ml_X8_81 hl.1 (Nat.le_of_ble_eq_true rfl) ⟨Nat.le_of_ble_eq_true rfl, Nat.le_of_ble_eq_true rfl, Nat.le_refl _, Nat.le_refl _⟩ dX8_nearestTray_15 ?_
        refine top_i (y := nI (nT M)) rfl ?_
        refine ln_ge (tgt := 109) (a := i) (b := (nT M)) hx hb dX8_nearestTray_18 (by decide) rfl rfl (by omega) (by omega) (fun c_2t => ?_) (fun c_2f => ?_)
        · refine lv_aload_nN hx hb dX8_nearestTray_109 rfl (lv_at hl 2 rfl) ?_
          subst hQ
          exact rt_a (r := none) hx hb hr (Or.inl ⟨_, rfl⟩) hlk rfl (by rw [show Option.map (fun q => q.1) (bst (ntF M g f) (nT M)) = none from by rw [show nT M = i by omega, hB]; rfl]; rfl) dX8_nearestTray_110
        · refine lv_aload_n hx hb dX8_nearestTray_21 rfl (lv_at hl 3 rfl) ?_
          refine r1_get hC hK.1 (hW.ob (show jV M 8 0 from rfl)) lay_X8 rfl 2 (by decide) fl_X8_23 (fun x hx => hx) (v := .ref (ja 10 1)) rfl dX8_nearestTray_22 ?_
          refine lv_iload hx hb dX8_nearestTray_25 (lv_at hl 0 rfl) ?_
          refine jw_get hC hK hW.1 (i := 1) (j := i) (Or.inl (by decide)) (show i < jn M E 1 from (by show i < nT M; omega)) ml_X8_263 hl.1 (Nat.le_of_ble_eq_true rfl) ⟨Nat.le_of_ble_eq_true rfl, Nat.le_of_ble_eq_true rfl, Nat.le_refl _, Nat.le_refl _⟩ dX8_nearestTray_27 ?_
          refine jw_cast hC hK (hW.ob (show jV M 7 i from (by show i < nT M; omega))) rfl cl_X8_108 dX8_nearestTray_30 ?_
          refine lv_astore (lv' := [(6, .ref (ja 7 i)), (5, .int (nI i)), (4, .int 64), (3, .null), (0, .ref (ja 8 0)), (1, .int (nI f)), (2, .int g)]) hx hb dX8_nearestTray_33 hl (by decide) rfl (fun ls hl => ?_)
          refine lv_aload hx hb dX8_nearestTray_35 (lv_at hl 0 rfl) ?_
          refine r1_get hC hK.1 (hW.ob (show jV M 7 i from (by show i < nT M; omega))) lay_X7 rfl 2 (by decide) fl_X8_267 (fun x hx => hx) (v := .int (M 8 i)) rfl dX8_nearestTray_37 ?_
          refine lv_iload_n hx hb dX8_nearestTray_40 rfl (lv_at hl 6 rfl) ?_
          refine lv_icmp_ne (tgt := 103) hx hb dX8_nearestTray_41 (by decide) (fun c_3t => ?_) (fun c_3f => ?_)
          · refine lv_iinc (v := nI (i + 1)) (lv' := [(5, .int (nI (i + 1))), (6, .ref (ja 7 i)), (4, .int 64), (3, .null), (0, .ref (ja 8 0)), (1, .int (nI f)), (2, .int g)]) hx hb dX8_nearestTray_103 hl (k := 1) rfl (nI_inc _) (by decide) rfl (fun ls hl => ?_)
            refine lv_goto (tgt := 9) hx hb dX8_nearestTray_106 (by decide) ?_
            exact ih1 (i + 1) none (by omega) ((bst_skip (ntF_n (fun q => c_3t q.1))).trans hB) ls (by omega) (lv_sub hl [0, 2, 3, 4, 5, 6] rfl)
          · refine lv_aload hx hb dX8_nearestTray_44 (lv_at hl 0 rfl) ?_
            refine r1_get hC hK.1 (hW.ob (show jV M 7 i from (by show i < nT M; omega))) lay_X7 rfl 3 (by decide) fl_X8_126 (fun x hx => hx) (v := .int (M 9 i)) rfl dX8_nearestTray_46 ?_
            refine lv_if_le (tgt := 103) hx hb dX8_nearestTray_49 (by decide) (fun c_4t => ?_) (fun c_4f => ?_)
            · refine lv_iinc (v := nI (i + 1)) (lv' := [(5, .int (nI (i + 1))), (6, .ref (ja 7 i)), (4, .int 64), (3, .null), (0, .ref (ja 8 0)), (1, .int (nI f)), (2, .int g)]) hx hb dX8_nearestTray_103 hl (k := 1) rfl (nI_inc _) (by decide) rfl (fun ls hl => ?_)
              refine lv_goto (tgt := 9) hx hb dX8_nearestTray_106 (by decide) ?_
              exact ih1 (i + 1) none (by omega) ((bst_skip (ntF_n (fun q => q.2.1 c_4t))).trans hB) ls (by omega) (lv_sub hl [0, 2, 3, 4, 5, 6] rfl)
            · refine lv_aload_n hx hb dX8_nearestTray_52 rfl (lv_at hl 4 rfl) ?_
              refine r1_get hC hK.1 (hW.ob (show jV M 8 0 from rfl)) lay_X8 rfl 0 (by decide) fl_X8_10 (fun x hx => hx) (v := .ref (ja 0 0)) rfl dX8_nearestTray_53 ?_
              refine lv_aload hx hb dX8_nearestTray_56 (lv_at hl 0 rfl) ?_
              refine cl_p (run_V hC (cJ_X0_robotWith l G d0 mi Rf ja M E i (show i < nT M from (by show i < nT M; omega)) hu21 (by omega)) (As := [.ref (ja 7 i)]) (rest := []) rfl rfl ml_X8_333 im_X0_robotWith se_X0_robotWith ini_X0 cd_X0_robotWith ⟨rfl, na_X0_robotWith⟩ jB_blind (hW.recv hK (show jV M 0 0 from rfl) rfl) (jB_at hX hRf hW hS) hl.1 (Nat.le_of_ble_eq_true rfl) ⟨Nat.le_of_ble_eq_true rfl, Nat.le_of_ble_eq_true rfl⟩ ⟨Nat.le_refl _, Nat.le_refl _⟩ rfl dX8_nearestTray_58) ?_
              rcases ho5 : rtA M i with _ | k5
              · refine top_v (y := .null) (by first | rfl | (rw [ho5]; rfl)) ?_
                refine lv_ifnonnullN hx hb dX8_nearestTray_61 ?_
                have hz0 : M 8 i = g ∧ ¬ M 9 i ≤ 0 ∧ rtA M i = none := ⟨c_3f, c_4f, ho5⟩
                obtain ⟨j, hj, ej⟩ := hI.hH i (by omega)
                refine lv_aload_n hx hb dX8_nearestTray_64 rfl (lv_at hl 4 rfl) ?_
                refine r1_get hC hK.1 (hW.ob (show jV M 8 0 from rfl)) lay_X8 rfl 0 (by decide) fl_X8_10 (fun x hx => hx) (v := .ref (ja 0 0)) rfl dX8_nearestTray_65 ?_
                refine r1_get hC hK.1 (hW.ob (show jV M 0 0 from rfl)) lay_X0 rfl 0 (by decide) fl_X8_40 (fun x hx => hx) (v := .ref (ja 1 0)) rfl dX8_nearestTray_68 ?_
                refine lv_iload_n hx hb dX8_nearestTray_71 rfl (lv_at hl 5 rfl) ?_
                refine lv_aload hx hb dX8_nearestTray_72 (lv_at hl 0 rfl) ?_
                refine r1_get hC hK.1 (hW.ob (show jV M 7 i from (by show i < nT M; omega))) lay_X7 rfl 1 (by decide) fl_X8_185 (fun x hx => hx) (v := .int (nI j)) (congrArg (fun z => some (Value.int z)) ej) dX8_nearestTray_74 ?_
                refine lv_iconst (v := (-1)) hx hb dX8_nearestTray_77 (by decide) ?_
                refine cl_p (run_V hC (cJ_X1_stepsBetween l G d0 mi Rf ja M E f j (-1) (by omega) (by omega)) (As := [.int (nI f), .int (nI j), .int (-1)]) (rest := []) rfl rfl ml_X8_77 im_X1_stepsBetween se_X1_stepsBetween ini_X1 cd_X1_stepsBetween ⟨rfl, na_X1_stepsBetween⟩ jB_blind (hW.recv hK (show jV M 1 0 from rfl) rfl) (jB_at hX hRf hW hS) hl.1 (Nat.le_of_ble_eq_true rfl) ⟨Nat.le_of_ble_eq_true rfl, Nat.le_of_ble_eq_true rfl⟩ ⟨Nat.le_refl _, Nat.le_refl _⟩ rfl dX8_nearestTray_78) ?_
                have hgm := dG_X hD h9f hj
                rcases hd : dG (frE M E (-1)) f j with _ | d
                · have hr9 : ntF M g f i = none := by rw [ntF_d hz0, ej, ix_nI (by omega), ← hgm, hd]; rfl
                  refine top_i (y := -1) rfl ?_
                  refine lv_istore (lv' := [(7, .int (-1)), (6, .ref (ja 7 i)), (5, .int (nI i)), (4, .int 64), (3, .null), (0, .ref (ja 8 0)), (1, .int (nI f)), (2, .int g)]) hx hb dX8_nearestTray_81 hl (by decide) rfl (fun ls hl => ?_)
                  refine lv_iload hx hb dX8_nearestTray_83 (lv_at hl 0 rfl) ?_
                  refine lv_iconst (v := (-1)) hx hb dX8_nearestTray_85 (by decide) ?_
                  refine lv_icmp_eq (tgt := 103) hx hb dX8_nearestTray_86 (by decide) (fun _ => ?_) (fun c => absurd c (by decide))
                  refine lv_iinc (v := nI (i + 1)) (lv' := [(5, .int (nI (i + 1))), (7, .int (-1)), (6, .ref (ja 7 i)), (4, .int 64), (3, .null), (0, .ref (ja 8 0)), (1, .int (nI f)), (2, .int g)]) hx hb dX8_nearestTray_103 hl (k := 2) rfl (nI_inc _) (by decide) rfl (fun ls hl => ?_)
                  refine lv_goto (tgt := 9) hx hb dX8_nearestTray_106 (by decide) ?_
                  exact ih1 (i + 1) none (by omega) ((bst_skip hr9).trans hB) ls (by omega) (lv_sub hl [0, 3, 4, 5, 6, 7] rfl)
                · have hr9 : ntF M g f i = some (i, d) := by rw [ntF_d hz0, ej, ix_nI (by omega), ← hgm, hd]; rfl
                  have hd64 : d < 64 := dG_64 h9f hj hd
                  refine top_i (y := nI d) rfl ?_
                  refine lv_istore (lv' := [(7, .int (nI d)), (6, .ref (ja 7 i)), (5, .int (nI i)), (4, .int 64), (3, .null), (0, .ref (ja 8 0)), (1, .int (nI f)), (2, .int g)]) hx hb dX8_nearestTray_81 hl (by decide) rfl (fun ls hl => ?_)
                  refine lv_iload hx hb dX8_nearestTray_83 (lv_at hl 0 rfl) ?_
                  refine lv_iconst (v := (-1)) hx hb dX8_nearestTray_85 (by decide) ?_
                  refine lv_icmp_eq (tgt := 103) hx hb dX8_nearestTray_86 (by decide) (fun c => absurd c (nI_m1 (by omega))) (fun _ => ?_)
                  refine lv_iload hx hb dX8_nearestTray_89 (lv_at hl 0 rfl) ?_
                  refine lv_iload hx hb dX8_nearestTray_91 (lv_at hl 3 rfl) ?_
                  refine ln_ge (tgt := 103) (a := d) (b := 64) hx hb dX8_nearestTray_93 (by decide) rfl rfl (by omega) (by omega) (fun c_8t => ?_) (fun c_8f => ?_)
                  · exact absurd c_8t (by omega)
                  · refine lv_aload hx hb dX8_nearestTray_96 (lv_at hl 1 rfl) ?_
                    refine lv_astore_n (lv' := [(3, .ref (ja 7 i)), (7, .int (nI d)), (6, .ref (ja 7 i)), (5, .int (nI i)), (4, .int 64), (0, .ref (ja 8 0)), (1, .int (nI f)), (2, .int g)]) hx hb dX8_nearestTray_98 rfl hl (by decide) rfl (fun ls hl => ?_)
                    refine lv_iload hx hb dX8_nearestTray_99 (lv_at hl 1 rfl) ?_
                    refine lv_istore (lv' := [(4, .int (nI d)), (3, .ref (ja 7 i)), (7, .int (nI d)), (6, .ref (ja 7 i)), (5, .int (nI i)), (0, .ref (ja 8 0)), (1, .int (nI f)), (2, .int g)]) hx hb dX8_nearestTray_101 hl (by decide) rfl (fun ls hl => ?_)
                    refine lv_iinc (v := nI (i + 1)) (lv' := [(5, .int (nI (i + 1))), (4, .int (nI d)), (3, .ref (ja 7 i)), (7, .int (nI d)), (6, .ref (ja 7 i)), (0, .ref (ja 8 0)), (1, .int (nI f)), (2, .int g)]) hx hb dX8_nearestTray_103 hl (k := 4) rfl (nI_inc _) (by decide) rfl (fun ls hl => ?_)
                    refine lv_goto (tgt := 9) hx hb dX8_nearestTray_106 (by decide) ?_
                    exact ih1 (i + 1) (some (i, d)) (by omega) (bst_new hr9 hB) ls (by omega) (lv_sub hl [0, 1, 2, 5, 6, 7] rfl)
              · refine top_v (y := .ref (ja 5 k5)) (by first | rfl | (rw [ho5]; rfl)) ?_
                have hlt_k5 := (lastE_lt ho5).1
                refine lv_ifnonnull (tgt := 103) hx hb dX8_nearestTray_61 (by decide) ?_
                refine lv_iinc (v := nI (i + 1)) (lv' := [(5, .int (nI (i + 1))), (6, .ref (ja 7 i)), (4, .int 64), (3, .null), (0, .ref (ja 8 0)), (1, .int (nI f)), (2, .int g)]) hx hb dX8_nearestTray_103 hl (k := 1) rfl (nI_inc _) (by decide) rfl (fun ls hl => ?_)
                refine lv_goto (tgt := 9) hx hb dX8_nearestTray_106 (by decide) ?_
                exact ih1 (i + 1) none (by omega) ((bst_skip (ntF_n (fun q => by rw [ho5] at q; cases q.2.2))).trans hB) ls (by omega) (lv_sub hl [0, 2, 3, 4, 5, 6] rfl)
      · have hl : lv_has ls 8 [(5, .int (nI i)), (4, .int (nI p2)), (3, .ref (ja 7 p1)), (0, .ref (ja 8 0)), (1, .int (nI f)), (2, .int g)] := hl
        have hp1 : p1 < nT M ∧ p2 ≤ 64 := by obtain ⟨z, hz, h9⟩ := bst_in hB; exact ntF_in hI.hH h9f (by omega) h9
        refine lv_iload hx hb dX8_nearestTray_9 (lv_at hl 0 rfl) ?_
        refine lv_aload_n hx hb dX8_nearestTray_11 rfl (lv_at hl 3 rfl) ?_
        refine r1_get hC hK.1 (hW.ob (show jV M 8 0 from rfl)) lay_X8 rfl 2 (by decide) fl_X8_23 (fun x hx => hx) (v := .ref (ja 10 1)) rfl dX8_nearestTray_12 ?_
        refine jw_size hC hK hW.1 (i := 1) (Or.inl (by decide)) ml_X8_81 hl.1 (Nat.le_of_ble_eq_true rfl) ⟨Nat.le_of_ble_eq_true rfl, Nat.le_of_ble_eq_true rfl, Nat.le_refl _, Nat.le_refl _⟩ dX8_nearestTray_15 ?_
        refine top_i (y := nI (nT M)) rfl ?_
        refine ln_ge (tgt := 109) (a := i) (b := (nT M)) hx hb dX8_nearestTray_18 (by decide) rfl rfl (by omega) (by omega) (fun c_9t => ?_) (fun c_9f => ?_)
        · refine lv_aload_n hx hb dX8_nearestTray_109 rfl (lv_at hl 2 rfl) ?_
          subst hQ
          exact rt_a (r := some (ja 7 p1)) hx hb hr (Or.inl ⟨_, rfl⟩) hlk rfl (by rw [show Option.map (fun q => q.1) (bst (ntF M g f) (nT M)) = some p1 from by rw [show nT M = i by omega, hB]; rfl]; rfl) dX8_nearestTray_110
        · refine lv_aload_n hx hb dX8_nearestTray_21 rfl (lv_at hl 3 rfl) ?_
          refine r1_get hC hK.1 (hW.ob (show jV M 8 0 from rfl)) lay_X8 rfl 2 (by decide) fl_X8_23 (fun x hx => hx) (v := .ref (ja 10 1)) rfl dX8_nearestTray_22 ?_
          refine lv_iload hx hb dX8_nearestTray_25 (lv_at hl 0 rfl) ?_
          refine jw_get hC hK hW.1 (i := 1) (j := i) (Or.inl (by decide)) (show i < jn M E 1 from (by show i < nT M; omega)) ml_X8_263 hl.1 (Nat.le_of_ble_eq_true rfl) ⟨Nat.le_of_ble_eq_true rfl, Nat.le_of_ble_eq_true rfl, Nat.le_refl _, Nat.le_refl _⟩ dX8_nearestTray_27 ?_
          refine jw_cast hC hK (hW.ob (show jV M 7 i from (by show i < nT M; omega))) rfl cl_X8_108 dX8_nearestTray_30 ?_
          refine lv_astore (lv' := [(6, .ref (ja 7 i)), (5, .int (nI i)), (4, .int (nI p2)), (3, .ref (ja 7 p1)), (0, .ref (ja 8 0)), (1, .int (nI f)), (2, .int g)]) hx hb dX8_nearestTray_33 hl (by decide) rfl (fun ls hl => ?_)
          refine lv_aload hx hb dX8_nearestTray_35 (lv_at hl 0 rfl) ?_
          refine r1_get hC hK.1 (hW.ob (show jV M 7 i from (by show i < nT M; omega))) lay_X7 rfl 2 (by decide) fl_X8_267 (fun x hx => hx) (v := .int (M 8 i)) rfl dX8_nearestTray_37 ?_
          refine lv_iload_n hx hb dX8_nearestTray_40 rfl (lv_at hl 6 rfl) ?_
          refine lv_icmp_ne (tgt := 103) hx hb dX8_nearestTray_41 (by decide) (fun c_10t => ?_) (fun c_10f => ?_)
          · refine lv_iinc (v := nI (i + 1)) (lv' := [(5, .int (nI (i + 1))), (6, .ref (ja 7 i)), (4, .int (nI p2)), (3, .ref (ja 7 p1)), (0, .ref (ja 8 0)), (1, .int (nI f)), (2, .int g)]) hx hb dX8_nearestTray_103 hl (k := 1) rfl (nI_inc _) (by decide) rfl (fun ls hl => ?_)
            refine lv_goto (tgt := 9) hx hb dX8_nearestTray_106 (by decide) ?_
            exact ih1 (i + 1) (some (p1, p2)) (by omega) ((bst_skip (ntF_n (fun q => c_10t q.1))).trans hB) ls (by omega) (lv_sub hl [0, 2, 3, 4, 5, 6] rfl)
          · refine lv_aload hx hb dX8_nearestTray_44 (lv_at hl 0 rfl) ?_
            refine r1_get hC hK.1 (hW.ob (show jV M 7 i from (by show i < nT M; omega))) lay_X7 rfl 3 (by decide) fl_X8_126 (fun x hx => hx) (v := .int (M 9 i)) rfl dX8_nearestTray_46 ?_
            refine lv_if_le (tgt := 103) hx hb dX8_nearestTray_49 (by decide) (fun c_11t => ?_) (fun c_11f => ?_)
            · refine lv_iinc (v := nI (i + 1)) (lv' := [(5, .int (nI (i + 1))), (6, .ref (ja 7 i)), (4, .int (nI p2)), (3, .ref (ja 7 p1)), (0, .ref (ja 8 0)), (1, .int (nI f)), (2, .int g)]) hx hb dX8_nearestTray_103 hl (k := 1) rfl (nI_inc _) (by decide) rfl (fun ls hl => ?_)
              refine lv_goto (tgt := 9) hx hb dX8_nearestTray_106 (by decide) ?_
              exact ih1 (i + 1) (some (p1, p2)) (by omega) ((bst_skip (ntF_n (fun q => q.2.1 c_11t))).trans hB) ls (by omega) (lv_sub hl [0, 2, 3, 4, 5, 6] rfl)
            · refine lv_aload_n hx hb dX8_nearestTray_52 rfl (lv_at hl 4 rfl) ?_
              refine r1_get hC hK.1 (hW.ob (show jV M 8 0 from rfl)) lay_X8 rfl 0 (by decide) fl_X8_10 (fun x hx => hx) (v := .ref (ja 0 0)) rfl dX8_nearestTray_53 ?_
              refine lv_aload hx hb dX8_nearestTray_56 (lv_at hl 0 rfl) ?_
              refine cl_p (run_V hC (cJ_X0_robotWith l G d0 mi Rf ja M E i (show i < nT M from (by show i < nT M; omega)) hu21 (by omega)) (As := [.ref (ja 7 i)]) (rest := []) rfl rfl ml_X8_333 im_X0_robotWith se_X0_robotWith ini_X0 cd_X0_robotWith ⟨rfl, na_X0_robotWith⟩ jB_blind (hW.recv hK (show jV M 0 0 from rfl) rfl) (jB_at hX hRf hW hS) hl.1 (Nat.le_of_ble_eq_true rfl) ⟨Nat.le_of_ble_eq_true rfl, Nat.le_of_ble_eq_true rfl⟩ ⟨Nat.le_refl _, Nat.le_refl _⟩ rfl dX8_nearestTray_58) ?_
              rcases ho12 : rtA M i with _ | k12
              · refine top_v (y := .null) (by first | rfl | (rw [ho12]; rfl)) ?_
                refine lv_ifnonnullN hx hb dX8_nearestTray_61 ?_
                have hz0 : M 8 i = g ∧ ¬ M 9 i ≤ 0 ∧ rtA M i = none := ⟨c_10f, c_11f, ho12⟩
                obtain ⟨j, hj, ej⟩ := hI.hH i (by omega)
                refine lv_aload_n hx hb dX8_nearestTray_64 rfl (lv_at hl 4 rfl) ?_
                refine r1_get hC hK.1 (hW.ob (show jV M 8 0 from rfl)) lay_X8 rfl 0 (by decide) fl_X8_10 (fun x hx => hx) (v := .ref (ja 0 0)) rfl dX8_nearestTray_65 ?_
                refine r1_get hC hK.1 (hW.ob (show jV M 0 0 from rfl)) lay_X0 rfl 0 (by decide) fl_X8_40 (fun x hx => hx) (v := .ref (ja 1 0)) rfl dX8_nearestTray_68 ?_
                refine lv_iload_n hx hb dX8_nearestTray_71 rfl (lv_at hl 5 rfl) ?_
                refine lv_aload hx hb dX8_nearestTray_72 (lv_at hl 0 rfl) ?_
                refine r1_get hC hK.1 (hW.ob (show jV M 7 i from (by show i < nT M; omega))) lay_X7 rfl 1 (by decide) fl_X8_185 (fun x hx => hx) (v := .int (nI j)) (congrArg (fun z => some (Value.int z)) ej) dX8_nearestTray_74 ?_
                refine lv_iconst (v := (-1)) hx hb dX8_nearestTray_77 (by decide) ?_
                refine cl_p (run_V hC (cJ_X1_stepsBetween l G d0 mi Rf ja M E f j (-1) (by omega) (by omega)) (As := [.int (nI f), .int (nI j), .int (-1)]) (rest := []) rfl rfl ml_X8_77 im_X1_stepsBetween se_X1_stepsBetween ini_X1 cd_X1_stepsBetween ⟨rfl, na_X1_stepsBetween⟩ jB_blind (hW.recv hK (show jV M 1 0 from rfl) rfl) (jB_at hX hRf hW hS) hl.1 (Nat.le_of_ble_eq_true rfl) ⟨Nat.le_of_ble_eq_true rfl, Nat.le_of_ble_eq_true rfl⟩ ⟨Nat.le_refl _, Nat.le_refl _⟩ rfl dX8_nearestTray_78) ?_
                have hgm := dG_X hD h9f hj
                rcases hd : dG (frE M E (-1)) f j with _ | d
                · have hr9 : ntF M g f i = none := by rw [ntF_d hz0, ej, ix_nI (by omega), ← hgm, hd]; rfl
                  refine top_i (y := -1) rfl ?_
                  refine lv_istore (lv' := [(7, .int (-1)), (6, .ref (ja 7 i)), (5, .int (nI i)), (4, .int (nI p2)), (3, .ref (ja 7 p1)), (0, .ref (ja 8 0)), (1, .int (nI f)), (2, .int g)]) hx hb dX8_nearestTray_81 hl (by decide) rfl (fun ls hl => ?_)
                  refine lv_iload hx hb dX8_nearestTray_83 (lv_at hl 0 rfl) ?_
                  refine lv_iconst (v := (-1)) hx hb dX8_nearestTray_85 (by decide) ?_
                  refine lv_icmp_eq (tgt := 103) hx hb dX8_nearestTray_86 (by decide) (fun _ => ?_) (fun c => absurd c (by decide))
                  refine lv_iinc (v := nI (i + 1)) (lv' := [(5, .int (nI (i + 1))), (7, .int (-1)), (6, .ref (ja 7 i)), (4, .int (nI p2)), (3, .ref (ja 7 p1)), (0, .ref (ja 8 0)), (1, .int (nI f)), (2, .int g)]) hx hb dX8_nearestTray_103 hl (k := 2) rfl (nI_inc _) (by decide) rfl (fun ls hl => ?_)
                  refine lv_goto (tgt := 9) hx hb dX8_nearestTray_106 (by decide) ?_
                  exact ih1 (i + 1) (some (p1, p2)) (by omega) ((bst_skip hr9).trans hB) ls (by omega) (lv_sub hl [0, 3, 4, 5, 6, 7] rfl)
                · have hr9 : ntF M g f i = some (i, d) := by rw [ntF_d hz0, ej, ix_nI (by omega), ← hgm, hd]; rfl
                  have hd64 : d < 64 := dG_64 h9f hj hd
                  refine top_i (y := nI d) rfl ?_
                  refine lv_istore (lv' := [(7, .int (nI d)), (6, .ref (ja 7 i)), (5, .int (nI i)), (4, .int (nI p2)), (3, .ref (ja 7 p1)), (0, .ref (ja 8 0)), (1, .int (nI f)), (2, .int g)]) hx hb dX8_nearestTray_81 hl (by decide) rfl (fun ls hl => ?_)
                  refine lv_iload hx hb dX8_nearestTray_83 (lv_at hl 0 rfl) ?_
                  refine lv_iconst (v := (-1)) hx hb dX8_nearestTray_85 (by decide) ?_
                  refine lv_icmp_eq (tgt := 103) hx hb dX8_nearestTray_86 (by decide) (fun c => absurd c (nI_m1 (by omega))) (fun _ => ?_)
                  refine lv_iload hx hb dX8_nearestTray_89 (lv_at hl 0 rfl) ?_
                  refine lv_iload hx hb dX8_nearestTray_91 (lv_at hl 3 rfl) ?_
                  refine ln_ge (tgt := 103) (a := d) (b := p2) hx hb dX8_nearestTray_93 (by decide) rfl rfl (by omega) (by omega) (fun c_15t => ?_) (fun c_15f => ?_)
                  · refine lv_iinc (v := nI (i + 1)) (lv' := [(5, .int (nI (i + 1))), (7, .int (nI d)), (6, .ref (ja 7 i)), (4, .int (nI p2)), (3, .ref (ja 7 p1)), (0, .ref (ja 8 0)), (1, .int (nI f)), (2, .int g)]) hx hb dX8_nearestTray_103 hl (k := 2) rfl (nI_inc _) (by decide) rfl (fun ls hl => ?_)
                    refine lv_goto (tgt := 9) hx hb dX8_nearestTray_106 (by decide) ?_
                    exact ih1 (i + 1) (some (p1, p2)) (by omega) (bst_ge hr9 hB (by show ¬ d < p2; omega)) ls (by omega) (lv_sub hl [0, 3, 4, 5, 6, 7] rfl)
                  · refine lv_aload hx hb dX8_nearestTray_96 (lv_at hl 1 rfl) ?_
                    refine lv_astore_n (lv' := [(3, .ref (ja 7 i)), (7, .int (nI d)), (6, .ref (ja 7 i)), (5, .int (nI i)), (4, .int (nI p2)), (0, .ref (ja 8 0)), (1, .int (nI f)), (2, .int g)]) hx hb dX8_nearestTray_98 rfl hl (by decide) rfl (fun ls hl => ?_)
                    refine lv_iload hx hb dX8_nearestTray_99 (lv_at hl 1 rfl) ?_
                    refine lv_istore (lv' := [(4, .int (nI d)), (3, .ref (ja 7 i)), (7, .int (nI d)), (6, .ref (ja 7 i)), (5, .int (nI i)), (0, .ref (ja 8 0)), (1, .int (nI f)), (2, .int g)]) hx hb dX8_nearestTray_101 hl (by decide) rfl (fun ls hl => ?_)
                    refine lv_iinc (v := nI (i + 1)) (lv' := [(5, .int (nI (i + 1))), (4, .int (nI d)), (3, .ref (ja 7 i)), (7, .int (nI d)), (6, .ref (ja 7 i)), (0, .ref (ja 8 0)), (1, .int (nI f)), (2, .int g)]) hx hb dX8_nearestTray_103 hl (k := 4) rfl (nI_inc _) (by decide) rfl (fun ls hl => ?_)
                    refine lv_goto (tgt := 9) hx hb dX8_nearestTray_106 (by decide) ?_
                    exact ih1 (i + 1) (some (i, d)) (by omega) (bst_lt hr9 hB (by show d < p2; omega)) ls (by omega) (lv_sub hl [0, 1, 2, 5, 6, 7] rfl)
              · refine top_v (y := .ref (ja 5 k12)) (by first | rfl | (rw [ho12]; rfl)) ?_
                have hlt_k12 := (lastE_lt ho12).1
                refine lv_ifnonnull (tgt := 103) hx hb dX8_nearestTray_61 (by decide) ?_
                refine lv_iinc (v := nI (i + 1)) (lv' := [(5, .int (nI (i + 1))), (6, .ref (ja 7 i)), (4, .int (nI p2)), (3, .ref (ja 7 p1)), (0, .ref (ja 8 0)), (1, .int (nI f)), (2, .int g)]) hx hb dX8_nearestTray_103 hl (k := 1) rfl (nI_inc _) (by decide) rfl (fun ls hl => ?_)
                refine lv_goto (tgt := 9) hx hb dX8_nearestTray_106 (by decide) ?_
                exact ih1 (i + 1) (some (p1, p2)) (by omega) ((bst_skip (ntF_n (fun q => by rw [ho12] at q; cases q.2.2))).trans hB) ls (by omega) (lv_sub hl [0, 2, 3, 4, 5, 6] rfl)
  exact loop1 ((nT M - 0) + 1) 0 none (Nat.zero_le _) rfl ls (by omega) (lv_sub hl [0, 1, 2, 3, 4, 5] rfl)
theorem map_none {α β : Type} {f : α → β} {o : Option α} (h : o.map f = none) : o = none := by cases o with
  | none => rfl
  | some x => cases h
theorem map_some {α β : Type} {f : α → β} {o : Option α} {b : β} (h : o.map f = some b) : ∃ a, o = some a ∧ f a = b := by cases o with
  | none => cases h
  | some x => cases h; exact ⟨x, rfl, rfl⟩
set_option maxHeartbeats 4000000 in
set_option maxRecDepth 100000 in
theorem cJ_X8_sendRobotFor (l : Launch) (G : gG) (d0 mi : Nat) (Rf : Nat → Prop) (ja : Nat → Nat → Nat) (M : MS) (E : ES) (s_ : Nat) (B : Nat) (h_s_ : s_ < nS M) (hI : INV B M) (hD : hD_ M E) (hCL : CL M E) (hB31 : B < 2147483648) : Met l yX8_sendRobotFor (wB yX8_sendRobotFor cX8_sendRobotFor 6 none) (rmL 5 0 0) (va_Pc [.ref (ja 8 0), .ref (ja 6 s_)] (jB G d0 mi Rf ja M E)) (va_Qv (S := Unit) (fun _ => True) (fun _ z9 => WJ G d0 Rf ja (srvW s_ 31 M 0) (E) z9.heap) (jA Rf)) 0 0 (jA Rf) := by
  refine st_N (own := RX8) (by decide +kernel) rfl (Nat.le_of_ble_eq_true rfl) ?_
  intro p e s m below meth c ls args Q hQ hC hr hlk hnm hl hP
  obtain ⟨hW, hX, hRf⟩ := hP
  have hK := hX.1
  have hx := hC.1
  have hb := hC.2.1
  have hl : lv_has ls 6 [(0, .ref (ja 8 0)), (1, .ref (ja 6 s_))] := hl
  obtain ⟨H, locs, hHe, hLe⟩ : ∃ (H : Heap) (locs : List Loc), H = s.heap ∧ locs = [] := ⟨_, _, rfl, rfl⟩
  rw [← hHe] at hW
  have hS : va_S (jA Rf) s.heap H locs := by rw [hHe, hLe]; exact va_S.rf
  suffices hgo : W p l e (rmL 5 0 0) s m args below meth c H locs 0 0 Q (F0 m 0 ls []) by
    rw [hHe, hLe] at hgo
    exact hgo
  clear hHe hLe
  have h30 := hCL.n hI.c h_s_
  obtain ⟨c9, hc9, ec9⟩ := hI.hSC s_ h_s_
  have hcell := hI.r.hVC
  refine lv_iconst (v := 0) hx hb dX8_sendRobotFor_0 (by decide) ?_
  refine lv_istore_n (lv' := [(2, .int 0), (0, .ref (ja 8 0)), (1, .ref (ja 6 s_))]) hx hb dX8_sendRobotFor_1 rfl hl (by decide) rfl (fun ls hl => ?_)
  have loop1 : ∀ (n_ : Nat) (i : Nat) (hi : i ≤ eN E (17 + s_)) (hsv : srvW s_ (31 - i) M (afQ M E s_ i) = srvW s_ 31 M 0) (ls : Array Slot), eN E (17 + s_) - i < n_ → lv_has ls 6 [(2, .int (nI i)), (0, .ref (ja 8 0)), (1, .ref (ja 6 s_))] → W p l e (rmL 5 0 0) s m args below meth c H locs 0 0 Q (F0 m 2 ls []) := by
    intro n_
    induction n_ with
    | zero => intro i hi hsv ls hm hl; omega
    | succ n_ ih1 =>
      intro i hi hsv ls hm hl
      refine lv_iload_n hx hb dX8_sendRobotFor_2 rfl (lv_at hl 0 rfl) ?_
      refine lv_aload_n hx hb dX8_sendRobotFor_3 rfl (lv_at hl 2 rfl) ?_
      refine r1_get hC hK.1 (hW.ob (show jV M 6 s_ from h_s_)) lay_X6 rfl 2 (by decide) fl_X8_164 (fun x hx => hx) (v := .ref (ja 10 (17 + s_))) rfl dX8_sendRobotFor_4 ?_
      refine jw_size hC hK hW.1 (i := (17 + s_)) (by unfold jLV; omega) ml_X8_81 hl.1 (Nat.le_of_ble_eq_true rfl) ⟨Nat.le_of_ble_eq_true rfl, Nat.le_of_ble_eq_true rfl, Nat.le_refl _, Nat.le_refl _⟩ dX8_sendRobotFor_7 ?_
      refine top_i (y := nI (eN E (17 + s_))) (congrArg nI (jn_17 _)) ?_
      refine ln_ge (tgt := 93) (a := i) (b := (eN E (17 + s_))) hx hb dX8_sendRobotFor_10 (by decide) rfl rfl (by omega) (by omega) (fun c_2t => ?_) (fun c_2f => ?_)
      · subst hQ
        rw [show M = srvW s_ 31 M 0 from (by rw [← hsv, show 31 - i = (30 - i) + 1 by omega]; exact (srvW_none ((nl_cl hB31 hI hCL (i := i) h_s_).trans ((if_neg (by omega)).trans (if_pos (Or.inr (by omega)))))).symm)] at hW
        exact rt_qv () hx hb hr hlk hS (trivial) (fun t ht _ => by show WJ G d0 Rf ja _ _ t.heap; rw [ht]; exact hW) (by show 0 ≤ 0; omega) (by show 0 ≤ 0; omega) dX8_sendRobotFor_93
      · refine lv_aload_n hx hb dX8_sendRobotFor_13 rfl (lv_at hl 2 rfl) ?_
        refine r1_get hC hK.1 (hW.ob (show jV M 6 s_ from h_s_)) lay_X6 rfl 2 (by decide) fl_X8_164 (fun x hx => hx) (v := .ref (ja 10 (17 + s_))) rfl dX8_sendRobotFor_14 ?_
        refine lv_iload_n hx hb dX8_sendRobotFor_17 rfl (lv_at hl 0 rfl) ?_
        refine jw_get hC hK hW.1 (i := (17 + s_)) (j := i) (by unfold jLV; omega) (show i < jn M E (17 + s_) from (by first | omega | (rw [jn_7 (by have := hW.cnt.O10; omega)]; omega) | (rw [jn_17]; omega))) ml_X8_263 hl.1 (Nat.le_of_ble_eq_true rfl) ⟨Nat.le_of_ble_eq_true rfl, Nat.le_of_ble_eq_true rfl, Nat.le_refl _, Nat.le_refl _⟩ dX8_sendRobotFor_18 ?_
        refine top_r (y := (ja 2 (eL E (17 + s_) i))) (jc_17 _ _) ?_
        obtain ⟨hv17_3, hc17_3⟩ := (hCL s_ h_s_).1 i (by omega)
        have hk30 := VL_lt hI.c hv17_3
        obtain ⟨k, hk9⟩ : ∃ k, k = eL E (17 + s_) i := ⟨_, rfl⟩
        rw [← hk9] at hv17_3 hc17_3 hk30
        refine top_r (y := ja 2 k) (by rw [hk9]) ?_
        have hnl := (nl_cl hB31 hI hCL (i := i) h_s_).trans (if_pos (by omega))
        rw [← hk9] at hnl
        obtain ⟨n9, hn9, en9⟩ := (hI.f.2.2.2.1 k hv17_3).2.1
        have haf : afQ M E s_ (i + 1) = M 15 k := by show M 15 (eL E (17 + s_) i) = M 15 k; rw [hk9]
        refine jw_cast hC hK (hW.ob (show jV M 2 k from hv17_3)) rfl cl_X8_145 dX8_sendRobotFor_21 ?_
        refine lv_astore_n (lv' := [(3, .ref (ja 2 k)), (2, .int (nI i)), (0, .ref (ja 8 0)), (1, .ref (ja 6 s_))]) hx hb dX8_sendRobotFor_24 rfl hl (by decide) rfl (fun ls hl => ?_)
        refine lv_aload_n hx hb dX8_sendRobotFor_25 rfl (lv_at hl 0 rfl) ?_
        refine r1_get hC hK.1 (hW.ob (show jV M 2 k from hv17_3)) lay_X2 rfl 2 (by decide) fl_X8_182 (fun x hx => hx) (v := .int (nI n9)) (congrArg (fun z => some (Value.int z)) en9) dX8_sendRobotFor_26 ?_
        refine lnz_ne (tgt := 36) hx hb dX8_sendRobotFor_29 (by decide) (by omega) (fun c_4t => ?_) (fun c_4f => ?_)
        · refine lv_aload_n hx hb dX8_sendRobotFor_36 rfl (lv_at hl 2 rfl) ?_
          refine lv_aload_n hx hb dX8_sendRobotFor_37 rfl (lv_at hl 3 rfl) ?_
          refine r1_get hC hK.1 (hW.ob (show jV M 6 s_ from h_s_)) lay_X6 rfl 1 (by decide) fl_X8_300 (fun x hx => hx) (v := .int (nI c9)) (congrArg (fun z => some (Value.int z)) ec9) dX8_sendRobotFor_38 ?_
          refine lv_aload_n hx hb dX8_sendRobotFor_41 rfl (lv_at hl 0 rfl) ?_
          refine r1_get hC hK.1 (hW.ob (show jV M 2 k from hv17_3)) lay_X2 rfl 1 (by decide) fl_X8_321 (fun x hx => hx) (v := .int (M 12 k)) rfl dX8_sendRobotFor_42 ?_
          refine cl_p (run_V hC (cJ_X8_nearestTray l G d0 mi Rf ja M E c9 (M 12 k) B (by assumption) (by assumption) (by omega)) (As := [.int (nI c9), .int (M 12 k)]) (rest := []) rfl rfl ml_X8_322 im_X8_nearestTray se_X8_nearestTray ini_X8 cd_X8_nearestTray ⟨rfl, na_X8_nearestTray⟩ jB_blind (hW.recv hK (show jV M 8 0 from rfl) rfl) (jB_at hX hRf hW hS) hl.1 (Nat.le_of_ble_eq_true rfl) ⟨Nat.le_of_ble_eq_true rfl, Nat.le_of_ble_eq_true rfl⟩ ⟨Nat.le_refl _, Nat.le_refl _⟩ rfl dX8_sendRobotFor_45) ?_
          rcases ho5 : (bst (ntF M (M 12 k) c9) (nT M)).map (fun q => q.1) with _ | k5
          · refine top_v (y := .null) (by first | rfl | (rw [ho5]; rfl)) ?_
            refine lv_astoreN (lv' := [(4, .null), (3, .ref (ja 2 k)), (2, .int (nI i)), (0, .ref (ja 8 0)), (1, .ref (ja 6 s_))]) hx hb dX8_sendRobotFor_48 hl (by decide) rfl (fun ls hl => ?_)
            refine lv_aloadN hx hb dX8_sendRobotFor_50 (lv_at hl 0 rfl) ?_
            refine lv_ifnonnullN hx hb dX8_sendRobotFor_52 ?_
            refine lv_null hx hb dX8_sendRobotFor_55 ?_
            refine lv_goto (tgt := 71) hx hb dX8_sendRobotFor_56 (by decide) ?_
            refine lv_astoreN (lv' := [(5, .null), (4, .null), (3, .ref (ja 2 k)), (2, .int (nI i)), (0, .ref (ja 8 0)), (1, .ref (ja 6 s_))]) hx hb dX8_sendRobotFor_71 hl (by decide) rfl (fun ls hl => ?_)
            refine lv_aloadN hx hb dX8_sendRobotFor_73 (lv_at hl 0 rfl) ?_
            refine lv_ifnullN (tgt := 87) hx hb dX8_sendRobotFor_75 (by decide) ?_
            refine lv_iinc (v := nI (i + 1)) (lv' := [(2, .int (nI (i + 1))), (5, .null), (4, .null), (3, .ref (ja 2 k)), (0, .ref (ja 8 0)), (1, .ref (ja 6 s_))]) hx hb dX8_sendRobotFor_87 hl (k := 3) rfl (nI_inc _) (by decide) rfl (fun ls hl => ?_)
            refine lv_goto (tgt := 2) hx hb dX8_sendRobotFor_90 (by decide) ?_
            exact ih1 (i + 1) (by omega) (by rw [← hsv, show 31 - i = (31 - (i + 1)) + 1 by omega, srvW_no hnl (by rw [en9]; exact nI_nle (by omega) (by omega)) (snd_n1 (by rw [trB_nt, ec9, ix_nI (by omega)]; exact map_none ho5)), haf]) ls (by omega) (lv_sub hl [0, 4, 5] rfl)
          · refine top_v (y := .ref (ja 7 k5)) (by first | rfl | (rw [ho5]; rfl)) ?_
            obtain ⟨pp, htb0, hpp⟩ := map_some ho5
            have htb : trayB M s_ k = some pp := by rw [trB_nt, ec9, ix_nI (by omega)]; exact htb0
            have hlt_k5 : k5 < nT M := by rw [← hpp]; exact (trayB_lt htb).1
            have h16_ := hI.c.T16
            obtain ⟨jh, hj, ej0⟩ := hI.hH k5 hlt_k5
            have ej : M 7 pp.1 = nI jh := by rw [hpp]; exact ej0
            refine lv_astore (lv' := [(4, .ref (ja 7 k5)), (3, .ref (ja 2 k)), (2, .int (nI i)), (0, .ref (ja 8 0)), (1, .ref (ja 6 s_))]) hx hb dX8_sendRobotFor_48 hl (by decide) rfl (fun ls hl => ?_)
            refine lv_aload hx hb dX8_sendRobotFor_50 (lv_at hl 0 rfl) ?_
            refine lv_ifnonnull (tgt := 59) hx hb dX8_sendRobotFor_52 (by decide) ?_
            refine lv_aload_n hx hb dX8_sendRobotFor_59 rfl (lv_at hl 3 rfl) ?_
            refine r1_get hC hK.1 (hW.ob (show jV M 8 0 from rfl)) lay_X8 rfl 0 (by decide) fl_X8_10 (fun x hx => hx) (v := .ref (ja 0 0)) rfl dX8_sendRobotFor_60 ?_
            refine lv_aload hx hb dX8_sendRobotFor_63 (lv_at hl 0 rfl) ?_
            refine r1_get hC hK.1 (hW.ob (show jV M 7 k5 from hlt_k5)) lay_X7 rfl 1 (by decide) fl_X8_185 (fun x hx => hx) (v := .int (nI jh)) (congrArg (fun z => some (Value.int z)) ej0) dX8_sendRobotFor_65 ?_
            refine cl_p (run_V hC (cJ_X0_nearestIdle l G d0 mi Rf ja M E jh hj (by assumption) hcell) (As := [.int (nI jh)]) (rest := []) rfl rfl ml_X8_326 im_X0_nearestIdle se_X0_nearestIdle ini_X0 cd_X0_nearestIdle ⟨rfl, na_X0_nearestIdle⟩ jB_blind (hW.recv hK (show jV M 0 0 from rfl) rfl) (jB_at hX hRf hW hS) hl.1 (Nat.le_of_ble_eq_true rfl) ⟨Nat.le_of_ble_eq_true rfl, Nat.le_of_ble_eq_true rfl⟩ ⟨Nat.le_refl _, Nat.le_refl _⟩ rfl dX8_sendRobotFor_68) ?_
            rcases ho6 : (robB M jh).map (fun q => q.1) with _ | k6
            · refine top_v (y := .null) (by first | rfl | (rw [ho6]; rfl)) ?_
              refine lv_astoreN (lv' := [(5, .null), (4, .ref (ja 7 k5)), (3, .ref (ja 2 k)), (2, .int (nI i)), (0, .ref (ja 8 0)), (1, .ref (ja 6 s_))]) hx hb dX8_sendRobotFor_71 hl (by decide) rfl (fun ls hl => ?_)
              refine lv_aloadN hx hb dX8_sendRobotFor_73 (lv_at hl 0 rfl) ?_
              refine lv_ifnullN (tgt := 87) hx hb dX8_sendRobotFor_75 (by decide) ?_
              refine lv_iinc (v := nI (i + 1)) (lv' := [(2, .int (nI (i + 1))), (5, .null), (4, .ref (ja 7 k5)), (3, .ref (ja 2 k)), (0, .ref (ja 8 0)), (1, .ref (ja 6 s_))]) hx hb dX8_sendRobotFor_87 hl (k := 3) rfl (nI_inc _) (by decide) rfl (fun ls hl => ?_)
              refine lv_goto (tgt := 2) hx hb dX8_sendRobotFor_90 (by decide) ?_
              exact ih1 (i + 1) (by omega) (by rw [← hsv, show 31 - i = (31 - (i + 1)) + 1 by omega, srvW_no hnl (by rw [en9]; exact nI_nle (by omega) (by omega)) (snd_n2 htb (by rw [ej, ix_nI (by omega)]; exact map_none ho6)), haf]) ls (by omega) (lv_sub hl [0, 4, 5] rfl)
            · refine top_v (y := .ref (ja 5 k6)) (by first | rfl | (rw [ho6]; rfl)) ?_
              obtain ⟨qq, hrb0, hqq⟩ := map_some ho6
              have hrb : robB M (ix (M 7 pp.1)) = some qq := by rw [ej, ix_nI (by omega)]; exact hrb0
              have hlt_k6 : k6 < nR M := by rw [← hqq]; exact (robB_lt hrb).1
              refine lv_astore (lv' := [(5, .ref (ja 5 k6)), (4, .ref (ja 7 k5)), (3, .ref (ja 2 k)), (2, .int (nI i)), (0, .ref (ja 8 0)), (1, .ref (ja 6 s_))]) hx hb dX8_sendRobotFor_71 hl (by decide) rfl (fun ls hl => ?_)
              refine lv_aload hx hb dX8_sendRobotFor_73 (lv_at hl 0 rfl) ?_
              refine lv_ifnull hx hb dX8_sendRobotFor_75 ?_
              refine lv_aload hx hb dX8_sendRobotFor_78 (lv_at hl 0 rfl) ?_
              refine lv_aload hx hb dX8_sendRobotFor_80 (lv_at hl 1 rfl) ?_
              refine lv_aload_n hx hb dX8_sendRobotFor_82 rfl (lv_at hl 2 rfl) ?_
              refine jcl_v (run_V hC (cJ_X5_fetch l G d0 mi Rf ja M E k6 k5 k (show k6 < nR M from hlt_k6) (show k5 < nT M from hlt_k5) (show VL M k = true from hv17_3) (by omega) (by omega)) (As := [.ref (ja 7 k5), .ref (ja 2 k)]) (rest := []) rfl rfl ml_X8_329 im_X5_fetch se_X5_fetch ini_X5 cd_X5_fetch ⟨rfl, na_X5_fetch⟩ jB_blind (hW.recv hK (show jV M 5 k6 from hlt_k6) rfl) (jB_at hX hRf hW hS) hl.1 (Nat.le_of_ble_eq_true rfl) ⟨Nat.le_of_ble_eq_true rfl, Nat.le_of_ble_eq_true rfl⟩ ⟨Nat.le_refl _, Nat.le_refl _⟩ rfl dX8_sendRobotFor_83) hS (fun H locs hW hS => ?_)
              subst hQ
              rw [show (bcM (mset (mset M 21 k6 (nI k5)) 22 k6 (nI k)) k6 1) = srvW s_ 31 M 0 from (by rw [← hsv, show 31 - i = (30 - i) + 1 by omega, srvW_yes hnl (by rw [en9]; exact nI_nle (by omega) (by omega)) (snd_eq htb hrb), hpp, hqq]; exact fet_eq M _ _ _)] at hW
              exact rt_qv () hx hb hr hlk hS (trivial) (fun t ht _ => by show WJ G d0 Rf ja _ _ t.heap; rw [ht]; exact hW) (by show 0 ≤ 0; omega) (by show 0 ≤ 0; omega) dX8_sendRobotFor_86
        · refine lv_null hx hb dX8_sendRobotFor_32 ?_
          refine lv_goto (tgt := 48) hx hb dX8_sendRobotFor_33 (by decide) ?_
          refine lv_astoreN (lv' := [(4, .null), (3, .ref (ja 2 k)), (2, .int (nI i)), (0, .ref (ja 8 0)), (1, .ref (ja 6 s_))]) hx hb dX8_sendRobotFor_48 hl (by decide) rfl (fun ls hl => ?_)
          refine lv_aloadN hx hb dX8_sendRobotFor_50 (lv_at hl 0 rfl) ?_
          refine lv_ifnonnullN hx hb dX8_sendRobotFor_52 ?_
          refine lv_null hx hb dX8_sendRobotFor_55 ?_
          refine lv_goto (tgt := 71) hx hb dX8_sendRobotFor_56 (by decide) ?_
          refine lv_astoreN (lv' := [(5, .null), (4, .null), (3, .ref (ja 2 k)), (2, .int (nI i)), (0, .ref (ja 8 0)), (1, .ref (ja 6 s_))]) hx hb dX8_sendRobotFor_71 hl (by decide) rfl (fun ls hl => ?_)
          refine lv_aloadN hx hb dX8_sendRobotFor_73 (lv_at hl 0 rfl) ?_
          refine lv_ifnullN (tgt := 87) hx hb dX8_sendRobotFor_75 (by decide) ?_
          refine lv_iinc (v := nI (i + 1)) (lv' := [(2, .int (nI (i + 1))), (5, .null), (4, .null), (3, .ref (ja 2 k)), (0, .ref (ja 8 0)), (1, .ref (ja 6 s_))]) hx hb dX8_sendRobotFor_87 hl (k := 3) rfl (nI_inc _) (by decide) rfl (fun ls hl => ?_)
          refine lv_goto (tgt := 2) hx hb dX8_sendRobotFor_90 (by decide) ?_
          exact ih1 (i + 1) (by omega) (by rw [← hsv, show 31 - i = (31 - (i + 1)) + 1 by omega, srvW_skip hnl (by rw [en9, show n9 = 0 by omega]; decide), haf]) ls (by omega) (lv_sub hl [0, 4, 5] rfl)
  exact loop1 ((eN E (17 + s_) - 0) + 1) 0 (Nat.zero_le _) rfl ls (by omega) (lv_sub hl [0, 1, 2] rfl)
set_option maxHeartbeats 4000000 in
set_option maxRecDepth 100000 in
theorem cJ_X8_sendRobots (l : Launch) (G : gG) (d0 mi : Nat) (Rf : Nat → Prop) (ja : Nat → Nat → Nat) (M : MS) (E : ES) (B : Nat) (hI : INV B M) (hD : hD_ M E) (hCL : CL M E) (hB31 : B < 2147483648) : Met l yX8_sendRobots (wB yX8_sendRobots cX8_sendRobots 3 none) (rmL 6 0 0) (va_Pc [.ref (ja 8 0)] (jB G d0 mi Rf ja M E)) (va_Qv (S := Unit) (fun _ => True) (fun _ z9 => WJ G d0 Rf ja (itR srvF (nS M) M) (E) z9.heap) (jA Rf)) 0 0 (jA Rf) := by
  refine st_N (own := RX8) (by decide +kernel) rfl (Nat.le_of_ble_eq_true rfl) ?_
  intro p e s m below meth c ls args Q hQ hC hr hlk hnm hl hP
  obtain ⟨hW, hX, hRf⟩ := hP
  have hK := hX.1
  have hx := hC.1
  have hb := hC.2.1
  have hl : lv_has ls 3 [(0, .ref (ja 8 0))] := hl
  obtain ⟨H, locs, hHe, hLe⟩ : ∃ (H : Heap) (locs : List Loc), H = s.heap ∧ locs = [] := ⟨_, _, rfl, rfl⟩
  rw [← hHe] at hW
  have hS : va_S (jA Rf) s.heap H locs := by rw [hHe, hLe]; exact va_S.rf
  suffices hgo : W p l e (rmL 6 0 0) s m args below meth c H locs 0 0 Q (F0 m 0 ls []) by
    rw [hHe, hLe] at hgo
    exact hgo
  clear hHe hLe
  refine lv_iconst (v := 0) hx hb dX8_sendRobots_0 (by decide) ?_
  refine lv_istore_n (lv' := [(1, .int 0), (0, .ref (ja 8 0))]) hx hb dX8_sendRobots_1 rfl hl (by decide) rfl (fun ls hl => ?_)
  have loop1 : ∀ (n_ : Nat) (i : Nat) (Mi : MS) (H : Heap) (locs : List Loc) (hi : i ≤ nS M) (hMi : Mi = itR srvF i M) (hW : WJ G d0 Rf ja Mi E H) (hS : va_S (jA Rf) s.heap H locs) (ls : Array Slot), nS M - i < n_ → lv_has ls 3 [(1, .int (nI i)), (0, .ref (ja 8 0))] → W p l e (rmL 6 0 0) s m args below meth c H locs 0 0 Q (F0 m 2 ls []) := by
    intro n_
    induction n_ with
    | zero => intro i Mi H locs hi hMi hW hS ls hm hl; omega
    | succ n_ ih1 =>
      intro i Mi H locs hi hMi hW hS ls hm hl
      have h3 := hI.c.S3
      obtain ⟨hIi, hki⟩ := itR_INV hI (f := srvF) (N := nS M) (fun M1 q a b c => INV_srv a (by rw [b.eS]; exact c)) i hi
      have hdi := itR_DK hI (f := srvF) (N := nS M) (fun M1 q a b c => INV_srv a (by rw [b.eS]; exact c)) (fun M1 q a b c => (DK_srv a).1) i hi
      rw [← hMi] at hIi hki hdi
      have hni : nS Mi = nS M := hki.eS
      have hDi : hD_ Mi E := hdi.hD hI.u18 hIi.u18 rfl hD
      have hCi : CL Mi E := hCL.kp hki EK.rf
      refine lv_iload_n hx hb dX8_sendRobots_2 rfl (lv_at hl 0 rfl) ?_
      refine lv_aload_n hx hb dX8_sendRobots_3 rfl (lv_at hl 1 rfl) ?_
      refine r1_get hC hK.1 (hW.ob (show jV Mi 8 0 from rfl)) lay_X8 rfl 1 (by decide) fl_X8_19 (fun x hx => hx) (v := .ref (ja 10 0)) rfl dX8_sendRobots_4 ?_
      refine jw_size hC hK hW.1 (i := 0) (Or.inl (by decide)) ml_X8_81 hl.1 (Nat.le_of_ble_eq_true rfl) ⟨Nat.le_of_ble_eq_true rfl, Nat.le_of_ble_eq_true rfl, Nat.le_refl _, Nat.le_refl _⟩ dX8_sendRobots_7 ?_
      refine top_i (y := nI (nS Mi)) rfl ?_
      refine ln_ge (tgt := 47) (a := i) (b := (nS Mi)) hx hb dX8_sendRobots_10 (by decide) rfl rfl (by omega) (by omega) (fun c_2t => ?_) (fun c_2f => ?_)
      · subst hQ
        rw [show Mi = itR srvF (nS M) M from (by rw [hMi, show i = nS M by omega])] at hW
        exact rt_qv () hx hb hr hlk hS (trivial) (fun t ht _ => by show WJ G d0 Rf ja _ _ t.heap; rw [ht]; exact hW) (by show 0 ≤ 0; omega) (by show 0 ≤ 0; omega) dX8_sendRobots_47
      · refine lv_aload_n hx hb dX8_sendRobots_13 rfl (lv_at hl 1 rfl) ?_
        refine r1_get hC hK.1 (hW.ob (show jV Mi 8 0 from rfl)) lay_X8 rfl 1 (by decide) fl_X8_19 (fun x hx => hx) (v := .ref (ja 10 0)) rfl dX8_sendRobots_14 ?_
        refine lv_iload_n hx hb dX8_sendRobots_17 rfl (lv_at hl 0 rfl) ?_
        refine jw_get hC hK hW.1 (i := 0) (j := i) (Or.inl (by decide)) (show i < jn Mi E 0 from (by show i < nS Mi; omega)) ml_X8_263 hl.1 (Nat.le_of_ble_eq_true rfl) ⟨Nat.le_of_ble_eq_true rfl, Nat.le_of_ble_eq_true rfl, Nat.le_refl _, Nat.le_refl _⟩ dX8_sendRobots_18 ?_
        refine jw_cast hC hK (hW.ob (show jV Mi 6 i from (by show i < nS Mi; omega))) rfl cl_X8_87 dX8_sendRobots_21 ?_
        refine lv_astore_n (lv' := [(2, .ref (ja 6 i)), (1, .int (nI i)), (0, .ref (ja 8 0))]) hx hb dX8_sendRobots_24 rfl hl (by decide) rfl (fun ls hl => ?_)
        refine lv_aload_n hx hb dX8_sendRobots_25 rfl (lv_at hl 2 rfl) ?_
        refine r1_get hC hK.1 (hW.ob (show jV Mi 8 0 from rfl)) lay_X8 rfl 0 (by decide) fl_X8_10 (fun x hx => hx) (v := .ref (ja 0 0)) rfl dX8_sendRobots_26 ?_
        refine lv_aload_n hx hb dX8_sendRobots_29 rfl (lv_at hl 0 rfl) ?_
        refine cl_p (run_V hC (cJ_X0_worksFor l G d0 mi Rf ja Mi E i (show i < nS Mi from (by show i < nS Mi; omega))) (As := [.ref (ja 6 i)]) (rest := []) rfl rfl ml_X8_313 im_X0_worksFor se_X0_worksFor ini_X0 cd_X0_worksFor ⟨rfl, na_X0_worksFor⟩ jB_blind (hW.recv hK (show jV Mi 0 0 from rfl) rfl) (jB_at hX hRf hW hS) hl.1 (Nat.le_of_ble_eq_true rfl) ⟨Nat.le_of_ble_eq_true rfl, Nat.le_of_ble_eq_true rfl⟩ ⟨Nat.le_refl _, Nat.le_refl _⟩ rfl dX8_sendRobots_30) ?_
        refine lb_ne (tgt := 41) (b := (hasB Mi (nI i))) hx hb dX8_sendRobots_33 (by decide) (fun c_3t => ?_) (fun c_3f => ?_)
        · refine lv_iinc (v := nI (i + 1)) (lv' := [(1, .int (nI (i + 1))), (2, .ref (ja 6 i)), (0, .ref (ja 8 0))]) hx hb dX8_sendRobots_41 hl (k := 1) rfl (nI_inc _) (by decide) rfl (fun ls hl => ?_)
          refine lv_goto (tgt := 2) hx hb dX8_sendRobots_44 (by decide) ?_
          have hW : WJ G d0 Rf ja (srvF Mi i) E H := by rw [show srvF Mi i = Mi from (by unfold srvF; exact if_pos c_3t)]; exact hW
          exact ih1 (i + 1) (srvF Mi i) H locs (by omega) (by rw [itR_s, ← hMi]) hW hS ls (by omega) (lv_sub hl [0, 2] rfl)
        · refine lv_aload_n hx hb dX8_sendRobots_36 rfl (lv_at hl 2 rfl) ?_
          refine lv_aload_n hx hb dX8_sendRobots_37 rfl (lv_at hl 0 rfl) ?_
          refine jcl_v (run_V hC (cJ_X8_sendRobotFor l G d0 mi Rf ja Mi E i B (show i < nS Mi from (by show i < nS Mi; omega)) (by assumption) (by assumption) (by assumption) (by omega)) (As := [.ref (ja 6 i)]) (rest := []) rfl rfl ml_X8_317 im_X8_sendRobotFor se_X8_sendRobotFor ini_X8 cd_X8_sendRobotFor ⟨rfl, na_X8_sendRobotFor⟩ jB_blind (hW.recv hK (show jV Mi 8 0 from rfl) rfl) (jB_at hX hRf hW hS) hl.1 (Nat.le_of_ble_eq_true rfl) ⟨Nat.le_of_ble_eq_true rfl, Nat.le_of_ble_eq_true rfl⟩ ⟨Nat.le_refl _, Nat.le_refl _⟩ rfl dX8_sendRobots_38) hS (fun H locs hW hS => ?_)
          refine lv_iinc (v := nI (i + 1)) (lv' := [(1, .int (nI (i + 1))), (2, .ref (ja 6 i)), (0, .ref (ja 8 0))]) hx hb dX8_sendRobots_41 hl (k := 1) rfl (nI_inc _) (by decide) rfl (fun ls hl => ?_)
          refine lv_goto (tgt := 2) hx hb dX8_sendRobots_44 (by decide) ?_
          have hW : WJ G d0 Rf ja (srvF Mi i) E H := by rw [show srvF Mi i = (srvW i 31 Mi 0) from (by unfold srvF; exact if_neg (by rw [c_3f]; exact fun q => by cases q))]; exact hW
          exact ih1 (i + 1) (srvF Mi i) H locs (by omega) (by rw [itR_s, ← hMi]) hW hS ls (by omega) (lv_sub hl [0, 2] rfl)
  exact loop1 ((nS M - 0) + 1) 0 M H locs (Nat.zero_le _) rfl hW hS ls (by omega) (lv_sub hl [0, 1] rfl)
