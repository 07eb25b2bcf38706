/-! POINT 2: picks -/
def gS (n : Nat) : Nat := fb_sm gP n
theorem gS_s (n : Nat) : gS (n + 1) = gS n + gP n := rfl
theorem gS_le {a b : Nat} (h : a ≤ b) : gS a ≤ gS b := by
  obtain ⟨d, rfl⟩ := Nat.le.dest h
  induction d with
  | zero => exact Nat.le_refl _
  | succ d ih =>
    have := ih (by omega)
    show _ ≤ gS (a + d) + gP (a + d)
    omega
theorem pkF_P {B : Nat} {M : MS} {r : Nat} (hI : INV B M) (hr : r < nR M) (h3 : M 20 r = 3) : nP (pkF M r) = nP M + 1 := by
  have hp := pk_1500 hI hr h3
  obtain ⟨t, k, s, n, ht, e21, hv, e22, -⟩ := srvg hI hr h3
  have h16 := hI.c.T16
  have hk := VL_lt hI.c hv
  have e : pkF M r 34 0 = nI (nP M + 1) := by
    unfold pkF
    rw [pkB_C e22 e21 hk (by omega)]
    have q : pkC M k t 34 0 = nI (nP M + 1) := by
      have := pkX_C (M := M) (k := k) (t := t) 34 rfl
      rw [this]
      show upd (M 34) 0 (nI (nP M + 1)) 0 = _
      exact upd_s _ _ _
    split
    · unfold becF
      rw [mset_n _ _ _ (by decide), mset_n _ _ _ (by decide), mset_n _ _ _ (by decide), mset_n _ _ _ (by decide), mset_n _ _ _ (by decide)]
      exact q
    · exact q
  show (pkF M r 34 0).toNatClampNeg = _
  rw [e, nI_clamp (by omega)]
theorem pk_P {B : Nat} {M : MS} (hI : INV B M) : ∀ i, i ≤ nR M → INV B (itR pkS i M) ∧ kpt M (itR pkS i M) := fun i hi => itR_INV hI (f := pkS) (N := nR M) (fun M1 q a b c => INV_pkS a (by rw [b.eR]; exact c)) i hi
theorem pk_step {B : Nat} {M : MS} (hI : INV B M) {i : Nat} (hi : i < nR M) : nP (itR pkS i M) ≤ nP (itR pkS (i + 1) M) ∧ (itR pkS i M 20 i = 3 → itR pkS (i + 1) M = pkF (itR pkS i M) i ∧ nP (itR pkS (i + 1) M) = nP (itR pkS i M) + 1) ∧ (¬ itR pkS i M 20 i = 3 → itR pkS (i + 1) M = itR pkS i M) := by
  obtain ⟨a, b⟩ := pk_P hI i (by omega)
  have e : itR pkS (i + 1) M = if itR pkS i M 20 i = 3 then pkF (itR pkS i M) i else itR pkS i M := rfl
  by_cases h : itR pkS i M 20 i = 3
  · rw [e, if_pos h]
    have := pkF_P a (by rw [b.eR]; exact hi) h
    exact ⟨by omega, fun _ => ⟨rfl, this⟩, fun q => absurd h q⟩
  · rw [e, if_neg h]
    exact ⟨Nat.le_refl _, fun q => absurd q h, fun _ => rfl⟩
theorem pk_mono {B : Nat} {M : MS} (hI : INV B M) {i j : Nat} (hij : i ≤ j) (hj : j ≤ nR M) : nP (itR pkS i M) ≤ nP (itR pkS j M) := by
  obtain ⟨d, rfl⟩ := Nat.le.dest hij
  clear hij
  induction d with
  | zero => exact Nat.le_refl _
  | succ d ih =>
    have := ih (by omega)
    have := (pk_step hI (i := i + d) (by omega)).1
    show _ ≤ nP (itR pkS (i + d + 1) M)
    omega
set_option maxHeartbeats 4000000 in
set_option maxRecDepth 100000 in
theorem cJ_X8_pickFromServing (l : Launch) (G : gG) (d0 mi : Nat) (Rf : Nat → Prop) (ja : Nat → Nat → Nat) (M : MS) (E : ES) (B : Nat) (hI : INV B M) : Met l yX8_pickFromServing (wB yX8_pickFromServing cX8_pickFromServing 3 none) (rmL 9 (2 * (nP (itR pkS (nR M) M) - nP M)) (gS (nP (itR pkS (nR M) M)) - gS (nP M))) (va_Pc [.ref (ja 8 0)] (jB G d0 mi Rf ja M E)) (va_Qv (S := JE) (fun u9 => J4 ja u9.1 ∧ EP E u9.2) (fun u9 z9 => WJ G d0 Rf u9.1 (itR pkS (nR M) M) u9.2 z9.heap) (jA Rf)) (2 * (nP (itR pkS (nR M) M) - nP M)) (gS (nP (itR pkS (nR M) M)) - gS (nP M)) (jA Rf) := by
  refine st_N (own := RX8) (by decide +kernel) rfl (Nat.le_of_ble_eq_true rfl) ?_
  intro p e s m below meth c ls args Q hQ hC hr hlk hnm hl hP
  obtain ⟨hW, hX, hRf⟩ := hP
  have hK := hX.1
  have hx := hC.1
  have hb := hC.2.1
  have hl : lv_has ls 3 [(0, .ref (ja 8 0))] := hl
  obtain ⟨H, locs, hHe, hLe⟩ : ∃ (H : Heap) (locs : List Loc), H = s.heap ∧ locs = [] := ⟨_, _, rfl, rfl⟩
  rw [← hHe] at hW
  have hS : va_S (jA Rf) s.heap H locs := by rw [hHe, hLe]; exact va_S.rf
  suffices hgo : W p l e (rmL 9 (2 * (nP (itR pkS (nR M) M) - nP M)) (gS (nP (itR pkS (nR M) M)) - gS (nP M))) s m args below meth c H locs 0 0 Q (F0 m 0 ls []) by
    rw [hHe, hLe] at hgo
    exact hgo
  clear hHe hLe
  obtain ⟨ja0, hja0⟩ : ∃ z, z = ja := ⟨_, rfl⟩
  refine lv_iconst (v := 0) hx hb dX8_pickFromServing_0 (by decide) ?_
  refine lv_istore_n (lv' := [(1, .int 0), (0, .ref (ja 8 0))]) hx hb dX8_pickFromServing_1 rfl hl (by decide) rfl (fun ls hl => ?_)
  have hW : WJ G d0 Rf ja (itR pkS 0 M) E H := hW
  have loop1 : ∀ (n_ : Nat) (i : Nat) (ja : Nat → Nat → Nat) (cu : Nat) (su : Nat) (Mi : MS) (Ei : ES) (H : Heap) (locs : List Loc) (hi : i ≤ nR M) (hMi : Mi = itR pkS i M) (hep : EP E Ei) (hj4 : J4 ja0 ja) (hcu : cu + 2 * nP M = 2 * nP Mi) (hsu : su + gS (nP M) = gS (nP Mi)) (hW : WJ G d0 Rf ja Mi Ei H) (hS : va_S (jA Rf) s.heap H locs) (ls : Array Slot), nR M - i < n_ → lv_has ls 3 [(1, .int (nI i)), (0, .ref (ja 8 0))] → W p l e (rmL 9 (2 * (nP (itR pkS (nR M) M) - nP M)) (gS (nP (itR pkS (nR M) M)) - gS (nP M))) s m args below meth c H locs cu su Q (F0 m 2 ls []) := by
    intro n_
    induction n_ with
    | zero => intro i ja cu su Mi Ei H locs hi hMi hep hj4 hcu hsu hW hS ls hm hl; omega
    | succ n_ ih1 =>
      intro i ja cu su Mi Ei H locs hi hMi hep hj4 hcu hsu hW hS ls hm hl
      obtain ⟨hIi, hki⟩ := pk_P hI i hi
      rw [← hMi] at hIi hki
      have hni : nR Mi = nR M := hki.eR
      have h16 := hIi.c.T16
      have h6 := hIi.c.R6
      have hm0 := pk_mono hI hi (Nat.le_refl _)
      have hm1 := gS_le hm0
      rw [← hMi] at hm0 hm1
      refine lv_iload_n hx hb dX8_pickFromServing_2 rfl (lv_at hl 0 rfl) ?_
      refine lv_aload_n hx hb dX8_pickFromServing_3 rfl (lv_at hl 1 rfl) ?_
      refine r1_get hC hK.1 (hW.ob (show jV Mi 8 0 from rfl)) lay_X8 rfl 0 (by decide) fl_X8_10 (fun x hx => hx) (v := .ref (ja 0 0)) rfl dX8_pickFromServing_4 ?_
      refine r1_get hC hK.1 (hW.ob (show jV Mi 0 0 from rfl)) lay_X0 rfl 1 (by decide) fl_X8_191 (fun x hx => hx) (v := .ref (ja 10 4)) rfl dX8_pickFromServing_7 ?_
      refine jw_size hC hK hW.1 (i := 4) (Or.inl (by decide)) ml_X8_81 hl.1 (Nat.le_of_ble_eq_true rfl) ⟨Nat.le_of_ble_eq_true rfl, Nat.le_of_ble_eq_true rfl, (by show cu ≤ 2 * (nP (itR pkS (nR M) M) - nP M); omega), (by show su ≤ gS (nP (itR pkS (nR M) M)) - gS (nP M); omega)⟩ dX8_pickFromServing_10 ?_
      refine top_i (y := nI (nR Mi)) rfl ?_
      refine ln_ge (tgt := 72) (a := i) (b := (nR Mi)) hx hb dX8_pickFromServing_13 (by decide) rfl rfl (by omega) (by omega) (fun c_2t => ?_) (fun c_2f => ?_)
      · subst hQ
        rw [show Mi = itR pkS (nR M) M from (by rw [hMi, show i = nR M by omega])] at hW hcu hsu
        exact rt_qv (ja, Ei) hx hb hr hlk hS ⟨by rw [← hja0]; exact hj4, hep⟩ (fun t9 ht9 _ => by show WJ G d0 Rf _ _ _ t9.heap; rw [ht9]; exact hW) (by show cu ≤ 2 * (nP (itR pkS (nR M) M) - nP M); omega) (by show su ≤ gS (nP (itR pkS (nR M) M)) - gS (nP M); omega) dX8_pickFromServing_72
      · refine lv_aload_n hx hb dX8_pickFromServing_16 rfl (lv_at hl 1 rfl) ?_
        refine r1_get hC hK.1 (hW.ob (show jV Mi 8 0 from rfl)) lay_X8 rfl 0 (by decide) fl_X8_10 (fun x hx => hx) (v := .ref (ja 0 0)) rfl dX8_pickFromServing_17 ?_
        refine r1_get hC hK.1 (hW.ob (show jV Mi 0 0 from rfl)) lay_X0 rfl 1 (by decide) fl_X8_191 (fun x hx => hx) (v := .ref (ja 10 4)) rfl dX8_pickFromServing_20 ?_
        refine lv_iload_n hx hb dX8_pickFromServing_23 rfl (lv_at hl 0 rfl) ?_
        refine jw_get hC hK hW.1 (i := 4) (j := i) (Or.inl (by decide)) (show i < jn Mi Ei 4 from (by show i < nR Mi; omega)) ml_X8_263 hl.1 (Nat.le_of_ble_eq_true rfl) ⟨Nat.le_of_ble_eq_true rfl, Nat.le_of_ble_eq_true rfl, (by show cu ≤ 2 * (nP (itR pkS (nR M) M) - nP M); omega), (by show su ≤ gS (nP (itR pkS (nR M) M)) - gS (nP M); omega)⟩ dX8_pickFromServing_24 ?_
        refine jw_cast hC hK (hW.ob (show jV Mi 5 i from (by show i < nR Mi; omega))) rfl cl_X8_174 dX8_pickFromServing_27 ?_
        refine lv_astore_n (lv' := [(2, .ref (ja 5 i)), (1, .int (nI i)), (0, .ref (ja 8 0))]) hx hb dX8_pickFromServing_30 rfl hl (by decide) rfl (fun ls hl => ?_)
        refine lv_aload_n hx hb dX8_pickFromServing_31 rfl (lv_at hl 0 rfl) ?_
        refine r1_get hC hK.1 (hW.ob (show jV Mi 5 i from (by show i < nR Mi; omega))) lay_X5 rfl 3 (by decide) fl_X8_201 (fun x hx => hx) (v := .int (Mi 20 i)) rfl dX8_pickFromServing_32 ?_
        refine lv_iconst (v := 3) hx hb dX8_pickFromServing_35 (by decide) ?_
        refine lv_icmp_ne (tgt := 66) hx hb dX8_pickFromServing_36 (by decide) (fun c_3t => ?_) (fun c_3f => ?_)
        · refine lv_iinc (v := nI (i + 1)) (lv' := [(1, .int (nI (i + 1))), (2, .ref (ja 5 i)), (0, .ref (ja 8 0))]) hx hb dX8_pickFromServing_66 hl (k := 1) rfl (nI_inc _) (by decide) rfl (fun ls hl => ?_)
          refine lv_goto (tgt := 2) hx hb dX8_pickFromServing_69 (by decide) ?_
          have hst := (pk_step hI (i := i) (by omega)).2.2
          rw [← hMi] at hst
          rw [← hst c_3t] at hW
          exact ih1 (i + 1) ja cu su (itR pkS (i + 1) M) Ei H locs (by omega) rfl hep hj4 (by rw [hst c_3t]; omega) (by rw [hst c_3t]; omega) hW hS ls (by omega) (lv_sub hl [0, 2] rfl)
        · have h3 := c_3f
          obtain ⟨t0, k0, s0, n0, ht0, e21, hv0, e22, -⟩ := srvg hIi (show i < nR Mi by omega) h3
          have hk30 := VL_lt hIi.c hv0
          have hp15 := pk_1500 hIi (show i < nR Mi by omega) h3
          obtain ⟨-, hst, -⟩ := pk_step hI (i := i) (by omega)
          rw [← hMi] at hst
          obtain ⟨hst1, hst2⟩ := hst h3
          have hmo := pk_mono hI (i := i + 1) (j := nR M) (by omega) (Nat.le_refl _)
          have hgs := gS_s (nP Mi)
          rw [← hst2] at hgs
          have hgl := gS_le hmo
          refine lv_aload_n hx hb dX8_pickFromServing_39 rfl (lv_at hl 0 rfl) ?_
          refine r1_get hC hK.1 (hW.ob (show jV Mi 5 i from (by show i < nR Mi; omega))) lay_X5 rfl 4 (by decide) fl_X8_212 (fun x hx => hx) (v := .ref (ja 7 t0)) (show some (va_rf (jp ja 7 (Mi 21 i))) = _ by rw [show Mi 21 i = nI t0 from e21, jp_s _ (by omega)]; rfl) dX8_pickFromServing_40 ?_
          refine lv_ifnull hx hb dX8_pickFromServing_43 ?_
          refine lv_aload_n hx hb dX8_pickFromServing_46 rfl (lv_at hl 0 rfl) ?_
          refine r1_get hC hK.1 (hW.ob (show jV Mi 5 i from (by show i < nR Mi; omega))) lay_X5 rfl 5 (by decide) fl_X8_301 (fun x hx => hx) (v := .ref (ja 2 k0)) (show some (va_rf (jp ja 2 (Mi 22 i))) = _ by rw [show Mi 22 i = nI k0 from e22, jp_s _ (by omega)]; rfl) dX8_pickFromServing_47 ?_
          refine lv_ifnull hx hb dX8_pickFromServing_50 ?_
          refine lv_aload_n hx hb dX8_pickFromServing_53 rfl (lv_at hl 2 rfl) ?_
          refine lv_aload_n hx hb dX8_pickFromServing_54 rfl (lv_at hl 0 rfl) ?_
          refine lv_aload_n hx hb dX8_pickFromServing_55 rfl (lv_at hl 0 rfl) ?_
          refine r1_get hC hK.1 (hW.ob (show jV Mi 5 i from (by show i < nR Mi; omega))) lay_X5 rfl 4 (by decide) fl_X8_212 (fun x hx => hx) (v := .ref (ja 7 t0)) (show some (va_rf (jp ja 7 (Mi 21 i))) = _ by rw [show Mi 21 i = nI t0 from e21, jp_s _ (by omega)]; rfl) dX8_pickFromServing_56 ?_
          refine lv_aload_n hx hb dX8_pickFromServing_59 rfl (lv_at hl 0 rfl) ?_
          refine r1_get hC hK.1 (hW.ob (show jV Mi 5 i from (by show i < nR Mi; omega))) lay_X5 rfl 5 (by decide) fl_X8_301 (fun x hx => hx) (v := .ref (ja 2 k0)) (show some (va_rf (jp ja 2 (Mi 22 i))) = _ by rw [show Mi 22 i = nI k0 from e22, jp_s _ (by omega)]; rfl) dX8_pickFromServing_60 ?_
          obtain ⟨jaK4, hjaK4⟩ : ∃ z, z = ja := ⟨_, rfl⟩
          have hj4K4 : J4 ja0 jaK4 := by rw [hjaK4]; exact hj4
          rw [← hjaK4] at hl
          refine jcl_vJ (run_V hC (cJ_X8_pick l G d0 mi Rf ja Mi Ei i t0 k0 (show i < nR Mi from (by show i < nR Mi; omega)) (show t0 < nT Mi from ht0) (show VL Mi k0 = true from hv0) h3 e21 e22 hp15) (As := [.ref (ja 5 i), .ref (ja 7 t0), .ref (ja 2 k0)]) (rest := []) rfl rfl ml_X8_305 im_X8_pick se_X8_pick ini_X8 cd_X8_pick ⟨rfl, na_X8_pick⟩ jB_blind (hW.recv hK (show jV Mi 8 0 from rfl) rfl) (jB_at hX hRf hW hS) hl.1 (Nat.le_of_ble_eq_true rfl) ⟨Nat.le_of_ble_eq_true rfl, Nat.le_of_ble_eq_true rfl⟩ ⟨by show cu + 2 ≤ 2 * (nP (itR pkS (nR M) M) - nP M); omega, by show su + (gP (nP Mi)) ≤ gS (nP (itR pkS (nR M) M)) - gS (nP M); omega⟩ rfl dX8_pickFromServing_63) hS (fun ja E5 hp5 H locs hW hS => ?_)
          have hp5 : J4 jaK4 ja ∧ EP Ei E5 := by rw [hjaK4]; exact hp5
          have hj4 : J4 ja0 ja := hj4K4.tr hp5.1
          have hl : lv_has ls 3 [(2, .ref (ja 5 i)), (1, .int (nI i)), (0, .ref (ja 8 0))] := by rw [hp5.1 5 i (by decide), hp5.1 8 0 (by decide)]; exact hl
          refine lv_iinc (v := nI (i + 1)) (lv' := [(1, .int (nI (i + 1))), (2, .ref (ja 5 i)), (0, .ref (ja 8 0))]) hx hb dX8_pickFromServing_66 hl (k := 1) rfl (nI_inc _) (by decide) rfl (fun ls hl => ?_)
          refine lv_goto (tgt := 2) hx hb dX8_pickFromServing_69 (by decide) ?_
          rw [← hst1] at hW
          exact ih1 (i + 1) ja (cu + 2) (su + gP (nP Mi)) (itR pkS (i + 1) M) E5 H locs (by omega) rfl (hep.tr hp5.2) hj4 (by omega) (by omega) hW hS ls (by omega) (lv_sub hl [0, 2] rfl)
  exact loop1 ((nR M - 0) + 1) 0 ja 0 0 M E H locs (Nat.zero_le _) rfl EP.rf (by rw [← hja0]; exact J4.rf) (by omega) (by omega) hW hS ls (by omega) (lv_sub hl [0, 1] rfl)
