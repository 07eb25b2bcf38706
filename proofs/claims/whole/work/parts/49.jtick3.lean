/-! THE TICK OF THE CLASS -/
theorem ps2_def {B : Nat} {M : MS} (hI : INV B M) (ht : tN M < 3000) : itR srvF (nS (ps1 M)) (ps1 M) = ps2 M := by
  have e : nS (ps1 M) = nS M := (ps1_eq hI ht).2.eS
  rw [e]; rfl
theorem ps3_def {B : Nat} {M : MS} (hI : INV B M) (ht : tN M < 3000) : itR askF (nR (ps2 M)) (ps2 M) = ps3 M := by
  have e : nR (ps2 M) = nR M := (ps2_eq hI ht).2.eR
  rw [e]; rfl
theorem ps4_def {B : Nat} {M : MS} (hI : INV B M) (ht : tN M < 3000) : itR resS (nR (ps3 M)) (ps3 M) = ps4 M := by
  have e : nR (ps3 M) = nR M := (ps3_eq hI ht).2.eR
  rw [e]; rfl
theorem ps5_def {B : Nat} {M : MS} (hI : INV B M) (ht : tN M < 3000) : itR asS (nR (ps4 M)) (ps4 M) = ps5 M := by
  have e : nR (ps4 M) = nR M := (ps4_eq hI ht).2.eR
  rw [e]; rfl
theorem pas_def {B : Nat} {M : MS} (hI : INV B M) (ht : tN M < 3000) : itR arrF (nR (ps6 M)) (ps6 M) = pasF M := by
  have e : nR (ps6 M) = nR M := (ps6_eq hI ht).2.eR
  rw [e]; rfl
theorem nI_one {j : Nat} (h : 0 < j) (hj : j < 2147483648) : ¬ nI j < 1 := by
  rw [Int32.lt_iff_toInt_lt, nI_toInt hj]
  have : (1 : Int32).toInt = 1 := by decide
  omega
set_option maxHeartbeats 4000000 in
set_option maxRecDepth 100000 in
theorem cJ_X8_tick (l : Launch) (G : gG) (d0 mi : Nat) (Rf : Nat → Prop) (ja : Nat → Nat → Nat) (M : MS) (E : ES) (n : Nat) (B : Nat) (hI : INV B M) (hCE : CE M E) (hB31 : B < 2147483648) (h1 : 0 < n) (h2 : n ≤ 50) (h3 : tN M + n ≤ 3000) : Met l yX8_tick (wB yX8_tick cX8_tick 4 (some .int)) (rmL 10 (2 * n + 2 * (nP (itP n M) - nP M)) (20 * n + (gS (nP (itP n M)) - gS (nP M)))) (va_Pc [.ref (ja 8 0), .int (nI n)] (jB G d0 mi Rf ja M E)) (va_Qi (S := JE) (fun v9 u9 => v9 = nI (nP (itP n M)) - nI (nP M) ∧ J4 ja u9.1 ∧ CE (itP n M) u9.2) (fun u9 z9 => WJ G d0 Rf u9.1 (itP n M) u9.2 z9.heap) (jA Rf)) (2 * n + 2 * (nP (itP n M) - nP M)) (20 * n + (gS (nP (itP n M)) - gS (nP M))) (jA Rf) := by
  refine st_N (own := RX8) (by decide +kernel) rfl (Nat.le_of_ble_eq_true rfl) ?_
  intro p e s m below meth c ls args Q hQ hC hr hlk hnm hl hP
  obtain ⟨hW, hX, hRf⟩ := hP
  have hK := hX.1
  have hx := hC.1
  have hb := hC.2.1
  have hl : lv_has ls 4 [(0, .ref (ja 8 0)), (1, .int (nI n))] := hl
  obtain ⟨H, locs, hHe, hLe⟩ : ∃ (H : Heap) (locs : List Loc), H = s.heap ∧ locs = [] := ⟨_, _, rfl, rfl⟩
  rw [← hHe] at hW
  have hS : va_S (jA Rf) s.heap H locs := by rw [hHe, hLe]; exact va_S.rf
  suffices hgo : W p l e (rmL 10 (2 * n + 2 * (nP (itP n M) - nP M)) (20 * n + (gS (nP (itP n M)) - gS (nP M)))) s m args below meth c H locs 0 0 Q (F0 m 0 ls []) by
    rw [hHe, hLe] at hgo
    exact hgo
  clear hHe hLe
  obtain ⟨ja0, hja0⟩ : ∃ z, z = ja := ⟨_, rfl⟩
  have htM := hI.f.2.2.2.2.2.2.2.1
  refine lv_iload_n hx hb dX8_tick_0 rfl (lv_at hl 1 rfl) ?_
  refine lv_iconst (v := 1) hx hb dX8_tick_1 (by decide) ?_
  refine lv_bipush (v := 50) hx hb dX8_tick_2 (by decide) ?_
  refine cl_pv (run_S hC (cJ_X8_requireRange l (nI n) 1 50 (nI_one h1 (by omega)) ((nI_rg (j := n) (n := 50) (by omega) (by decide)).2)) (As := [.int (nI n), .int 1, .int 50]) (rest := []) rfl rfl ml_X8_102 sm_X8_requireRange ini_X8 cd_X8_requireRange na_X8_requireRange tB_blind (fun _ _ _ => trivial) hl.1 (Nat.le_of_ble_eq_true rfl) ⟨Nat.le_of_ble_eq_true rfl, Nat.le_of_ble_eq_true rfl⟩ ⟨by show 0 + 0 ≤ 2 * n + 2 * (nP (itP n M) - nP M); omega, by show 0 + 0 ≤ 20 * n + (gS (nP (itP n M)) - gS (nP M)); omega⟩ rfl dX8_tick_4) ?_
  refine lv_aload_n hx hb dX8_tick_7 rfl (lv_at hl 0 rfl) ?_
  refine r1_get hC hK.1 (hW.ob (show jV M 8 0 from rfl)) lay_X8 rfl 5 (by decide) fl_X8_32 (fun x hx => hx) (v := .int (nI (tN M))) (congrArg (fun z => some (Value.int z)) htM) dX8_tick_8 ?_
  refine lv_iload_n hx hb dX8_tick_11 rfl (lv_at hl 1 rfl) ?_
  refine lv_iadd hx hb dX8_tick_12 ?_
  refine top_i (y := nI ((tN M) + n)) (nI_add (tN M) n) ?_
  refine lv_sipush (v := 3000) hx hb dX8_tick_13 (by decide) ?_
  refine ln_le (tgt := 29) (a := ((tN M) + n)) (b := 3000) hx hb dX8_tick_16 (by decide) rfl rfl (by omega) (by omega) (fun c_1t => ?_) (fun c_1f => ?_)
  · refine lv_aload_n hx hb dX8_tick_29 rfl (lv_at hl 0 rfl) ?_
    refine r1_get hC hK.1 (hW.ob (show jV M 8 0 from rfl)) lay_X8 rfl 4 (by decide) fl_X8_29 (fun x hx => hx) (v := .ref (ja 10 3)) rfl dX8_tick_30 ?_
    refine jw_size hC hK hW.1 (i := 3) (Or.inl (by decide)) ml_X8_81 hl.1 (Nat.le_of_ble_eq_true rfl) ⟨Nat.le_of_ble_eq_true rfl, Nat.le_of_ble_eq_true rfl, (by show 0 ≤ 2 * n + 2 * (nP (itP n M) - nP M); omega), (by show 0 ≤ 20 * n + (gS (nP (itP n M)) - gS (nP M)); omega)⟩ dX8_tick_33 ?_
    refine top_i (y := nI (nP M)) rfl ?_
    refine lv_istore_n (lv' := [(2, .int (nI (nP M))), (0, .ref (ja 8 0)), (1, .int (nI n))]) hx hb dX8_tick_36 rfl hl (by decide) rfl (fun ls hl => ?_)
    refine lv_iconst (v := 0) hx hb dX8_tick_37 (by decide) ?_
    refine lv_istore_n (lv' := [(3, .int 0), (2, .int (nI (nP M))), (0, .ref (ja 8 0)), (1, .int (nI n))]) hx hb dX8_tick_38 rfl hl (by decide) rfl (fun ls hl => ?_)
    have loop2 : ∀ (n_ : Nat) (i : Nat) (ja : Nat → Nat → Nat) (cu : Nat) (su : Nat) (Mi : MS) (Ei : ES) (H : Heap) (locs : List Loc) (hi : i ≤ n) (hMi : Mi = itP i M) (hCEi : CE Mi Ei) (hj4 : J4 ja0 ja) (hcu : cu + 2 * nP M ≤ 2 * i + 2 * nP Mi) (hsu : su + gS (nP M) ≤ 20 * i + gS (nP Mi)) (hW : WJ G d0 Rf ja Mi Ei H) (hS : va_S (jA Rf) s.heap H locs) (ls : Array Slot), n - i < n_ → lv_has ls 4 [(3, .int (nI i)), (2, .int (nI (nP M))), (0, .ref (ja 8 0)), (1, .int (nI n))] → W p l e (rmL 10 (2 * n + 2 * (nP (itP n M) - nP M)) (20 * n + (gS (nP (itP n M)) - gS (nP M)))) s m args below meth c H locs cu su Q (F0 m 39 ls []) := by
      intro n_
      induction n_ with
      | zero => intro i ja cu su Mi Ei H locs hi hMi hCEi hj4 hcu hsu hW hS ls hm hl; omega
      | succ n_ ih2 =>
        intro i ja cu su Mi Ei H locs hi hMi hCEi hj4 hcu hsu hW hS ls hm hl
        obtain ⟨hIi, hti⟩ := itP_inv hI i (by omega)
        have hPn9 := itP_Pm hI hi (by omega)
        rw [← hMi] at hIi hti hPn9
        have hgn9 := gS_le hPn9
        have hP0M := itP_P hI i (by omega)
        rw [← hMi] at hP0M
        have hg0M := gS_le hP0M
        refine lv_iload_n hx hb dX8_tick_39 rfl (lv_at hl 0 rfl) ?_
        refine lv_iload_n hx hb dX8_tick_40 rfl (lv_at hl 3 rfl) ?_
        refine ln_ge (tgt := 107) (a := i) (b := n) hx hb dX8_tick_41 (by decide) rfl rfl (by omega) (by omega) (fun c_3t => ?_) (fun c_3f => ?_)
        · refine lv_aload_n hx hb dX8_tick_107 rfl (lv_at hl 2 rfl) ?_
          refine r1_get hC hK.1 (hW.ob (show jV Mi 8 0 from rfl)) lay_X8 rfl 4 (by decide) fl_X8_29 (fun x hx => hx) (v := .ref (ja 10 3)) rfl dX8_tick_108 ?_
          refine jw_size hC hK hW.1 (i := 3) (Or.inl (by decide)) ml_X8_81 hl.1 (Nat.le_of_ble_eq_true rfl) ⟨Nat.le_of_ble_eq_true rfl, Nat.le_of_ble_eq_true rfl, (by show cu ≤ 2 * n + 2 * (nP (itP n M) - nP M); omega), (by show su ≤ 20 * n + (gS (nP (itP n M)) - gS (nP M)); omega)⟩ dX8_tick_111 ?_
          refine top_i (y := nI (nP Mi)) rfl ?_
          refine lv_iload_n hx hb dX8_tick_114 rfl (lv_at hl 1 rfl) ?_
          refine lv_isub hx hb dX8_tick_115 ?_
          subst hQ
          have hin : i = n := by omega
          rw [show Mi = itP n M from by rw [hMi, hin]] at hW hcu hsu hCEi hP0M hg0M ⊢
          exact rt_qi (ja, Ei) hx hb hr hlk hS ⟨rfl, by rw [← hja0]; exact hj4, hCEi⟩ (fun t9 ht9 _ => by show WJ G d0 Rf _ _ _ t9.heap; rw [ht9]; exact hW) (by show cu ≤ 2 * n + 2 * (nP (itP n M) - nP M); omega) (by show su ≤ 20 * n + (gS (nP (itP n M)) - gS (nP M)); omega) dX8_tick_116
        · have htm : tN Mi < 3000 := by omega
          have hP0 := ps1_P hIi htm
          have hg0 := gS_le hP0
          have k9 := itP_Pm hI (n := i + 1) (m := n) (by omega) (by omega)
          have k8 : nP (itP (i + 1) M) = nP (ps1 Mi) := by rw [hMi]; exact pas_P (itP i M)
          have hPn : nP (ps1 Mi) ≤ nP (itP n M) := by rw [k8] at k9; exact k9
          have hgn := gS_le hPn
          refine lv_aload_n hx hb dX8_tick_44 rfl (lv_at hl 2 rfl) ?_
          refine lv_dup hx hb dX8_tick_45 rfl ?_
          refine r1_get hC hK.1 (hW.ob (show jV Mi 8 0 from rfl)) lay_X8 rfl 5 (by decide) fl_X8_32 (fun x hx => hx) (v := .int (Mi 1 0)) rfl dX8_tick_46 ?_
          refine lv_iconst (v := 1) hx hb dX8_tick_49 (by decide) ?_
          refine lv_iadd hx hb dX8_tick_50 ?_
          refine jp_r1 hC hK hW hS fl_X8_32 dX8_tick_51 (fun H locs hW hS => ?_)
          have hIt := INV_time hIi htm
          have hCt := hCEi.tm hIi htm
          have hIt : INV B (tmS Mi) := hIt
          have htP : nP (tmS Mi) = nP Mi := rfl
          have htG := congrArg gS htP
          have he1 := congrArg nP (ps1_def hIi htm)
          have he2 := congrArg gS he1
          have hW : WJ G d0 Rf ja (tmS Mi) Ei H := hW
          refine lv_aload_n hx hb dX8_tick_54 rfl (lv_at hl 2 rfl) ?_
          obtain ⟨jaK4, hjaK4⟩ : ∃ z, z = ja := ⟨_, rfl⟩
          have hj4K4 : J4 ja0 jaK4 := by rw [hjaK4]; exact hj4
          rw [← hjaK4] at hl
          refine jcl_vJ (run_V hC (cJ_X8_pickFromServing l G d0 mi Rf ja (tmS Mi) Ei B hIt) (As := []) (rest := []) rfl rfl ml_X8_230 im_X8_pickFromServing se_X8_pickFromServing ini_X8 cd_X8_pickFromServing ⟨rfl, na_X8_pickFromServing⟩ jB_blind (hW.recv hK (show jV (tmS Mi) 8 0 from rfl) rfl) (jB_at hX hRf hW hS) hl.1 (Nat.le_of_ble_eq_true rfl) ⟨Nat.le_of_ble_eq_true rfl, Nat.le_of_ble_eq_true rfl⟩ ⟨by show cu + (2 * (nP (itR pkS (nR (tmS Mi)) (tmS Mi)) - nP (tmS Mi))) ≤ 2 * n + 2 * (nP (itP n M) - nP M); omega, by show su + (gS (nP (itR pkS (nR (tmS Mi)) (tmS Mi))) - gS (nP (tmS Mi))) ≤ 20 * n + (gS (nP (itP n M)) - gS (nP M)); omega⟩ rfl dX8_tick_55) hS (fun ja E5 hp5 H locs hW hS => ?_)
          have hp5 : J4 jaK4 ja ∧ EP Ei E5 := by rw [hjaK4]; exact hp5
          have hj4 : J4 ja0 ja := hj4K4.tr hp5.1
          have hl : lv_has ls 4 [(3, .int (nI i)), (2, .int (nI (nP M))), (0, .ref (ja 8 0)), (1, .int (nI n))] := by rw [hp5.1 8 0 (by decide)]; exact hl
          have hI1 := (ps1_eq hIi htm).1
          have hC1 : CE (ps1 Mi) E5 := by rw [← ps1_def hIi htm]; exact (hCt.pk hIt _ (Nat.le_refl _)).ep hp5.2
          have hD1 := hC1.hD hI1
          have hL1 := hC1.2.2.1
          have hW : WJ G d0 Rf ja (ps1 Mi) E5 H := by rw [← ps1_def hIi htm]; exact hW
          refine lv_aload_n hx hb dX8_tick_58 rfl (lv_at hl 2 rfl) ?_
          refine jcl_v (run_V hC (cJ_X8_sendRobots l G d0 mi Rf ja (ps1 Mi) E5 B hI1 hD1 hL1 (by omega)) (As := []) (rest := []) rfl rfl ml_X8_233 im_X8_sendRobots se_X8_sendRobots ini_X8 cd_X8_sendRobots ⟨rfl, na_X8_sendRobots⟩ jB_blind (hW.recv hK (show jV (ps1 Mi) 8 0 from rfl) rfl) (jB_at hX hRf hW hS) hl.1 (Nat.le_of_ble_eq_true rfl) ⟨Nat.le_of_ble_eq_true rfl, Nat.le_of_ble_eq_true rfl⟩ ⟨by show (cu + (2 * (nP (itR pkS (nR (tmS Mi)) (tmS Mi)) - nP (tmS Mi)))) + 0 ≤ 2 * n + 2 * (nP (itP n M) - nP M); omega, by show (su + (gS (nP (itR pkS (nR (tmS Mi)) (tmS Mi))) - gS (nP (tmS Mi)))) + 0 ≤ 20 * n + (gS (nP (itP n M)) - gS (nP M)); omega⟩ rfl dX8_tick_59) hS (fun H locs hW hS => ?_)
          have hI2 := (ps2_eq hIi htm).1
          have hC2 : CE (ps2 Mi) E5 := by rw [← ps2_def hIi htm]; exact hC1.srv hI1
          have hD2 := hC2.hD hI2
          have hA2 := hC2.2.1
          have hW : WJ G d0 Rf ja (ps2 Mi) E5 H := by rw [← ps2_def hIi htm]; exact hW
          refine lv_aload_n hx hb dX8_tick_62 rfl (lv_at hl 2 rfl) ?_
          refine r1_get hC hK.1 (hW.ob (show jV (ps2 Mi) 8 0 from rfl)) lay_X8 rfl 0 (by decide) fl_X8_10 (fun x hx => hx) (v := .ref (ja 0 0)) rfl dX8_tick_63 ?_
          refine lv_aload_n hx hb dX8_tick_66 rfl (lv_at hl 2 rfl) ?_
          refine r1_get hC hK.1 (hW.ob (show jV (ps2 Mi) 8 0 from rfl)) lay_X8 rfl 5 (by decide) fl_X8_32 (fun x hx => hx) (v := .int ((ps2 Mi) 1 0)) rfl dX8_tick_67 ?_
          refine jcl_vE (run_V hC (cJ_X0_askForCells l G d0 mi Rf ja (ps2 Mi) E5 ((ps2 Mi) 1 0) B hI2 hD2 hA2 rfl) (As := [.int ((ps2 Mi) 1 0)]) (rest := []) rfl rfl ml_X8_236 im_X0_askForCells se_X0_askForCells ini_X0 cd_X0_askForCells ⟨rfl, na_X0_askForCells⟩ jB_blind (hW.recv hK (show jV (ps2 Mi) 0 0 from rfl) rfl) (jB_at hX hRf hW hS) hl.1 (Nat.le_of_ble_eq_true rfl) ⟨Nat.le_of_ble_eq_true rfl, Nat.le_of_ble_eq_true rfl⟩ ⟨by show (cu + (2 * (nP (itR pkS (nR (tmS Mi)) (tmS Mi)) - nP (tmS Mi)))) + 0 ≤ 2 * n + 2 * (nP (itP n M) - nP M); omega, by show (su + (gS (nP (itR pkS (nR (tmS Mi)) (tmS Mi))) - gS (nP (tmS Mi)))) + 0 ≤ 20 * n + (gS (nP (itP n M)) - gS (nP M)); omega⟩ rfl dX8_tick_70) hS (fun E7 hp7 H locs hW hS => ?_)
          have hI3 := (ps3_eq hIi htm).1
          have hC3 : CE (ps3 Mi) E7 := by rw [← ps3_def hIi htm]; exact hC2.ask hI2 hp7.1 hp7.2.2.2
          have hD3 := hC3.hD hI3
          have hu5 := uC_1 E7 5
          have hW : WJ G d0 Rf ja (ps3 Mi) E7 H := by rw [← ps3_def hIi htm]; exact hW
          refine lv_aload_n hx hb dX8_tick_73 rfl (lv_at hl 2 rfl) ?_
          refine r1_get hC hK.1 (hW.ob (show jV (ps3 Mi) 8 0 from rfl)) lay_X8 rfl 0 (by decide) fl_X8_10 (fun x hx => hx) (v := .ref (ja 0 0)) rfl dX8_tick_74 ?_
          refine jcl_vE (run_V hC (cJ_X0_settleRings l G d0 mi Rf ja (ps3 Mi) E7 B hI3 hD3) (As := []) (rest := []) rfl rfl ml_X8_239 im_X0_settleRings se_X0_settleRings ini_X0 cd_X0_settleRings ⟨rfl, na_X0_settleRings⟩ jB_blind (hW.recv hK (show jV (ps3 Mi) 0 0 from rfl) rfl) (jB_at hX hRf hW hS) hl.1 (Nat.le_of_ble_eq_true rfl) ⟨Nat.le_of_ble_eq_true rfl, Nat.le_of_ble_eq_true rfl⟩ ⟨by show (cu + (2 * (nP (itR pkS (nR (tmS Mi)) (tmS Mi)) - nP (tmS Mi)))) + (uC E7 5) ≤ 2 * n + 2 * (nP (itP n M) - nP M); omega, by show (su + (gS (nP (itR pkS (nR (tmS Mi)) (tmS Mi))) - gS (nP (tmS Mi)))) + (10 * uC E7 5) ≤ 20 * n + (gS (nP (itP n M)) - gS (nP M)); omega⟩ rfl dX8_tick_77) hS (fun E8 hp8 H locs hW hS => ?_)
          have hI4 := (ps4_eq hIi htm).1
          have hC4 : CE (ps4 Mi) E8 := by rw [← ps4_def hIi htm]; exact hC3.res hI3 hp8
          have hD4 := hC4.hD hI4
          have hW : WJ G d0 Rf ja (ps4 Mi) E8 H := by rw [← ps4_def hIi htm]; exact hW
          refine lv_aload_n hx hb dX8_tick_80 rfl (lv_at hl 2 rfl) ?_
          refine r1_get hC hK.1 (hW.ob (show jV (ps4 Mi) 8 0 from rfl)) lay_X8 rfl 0 (by decide) fl_X8_10 (fun x hx => hx) (v := .ref (ja 0 0)) rfl dX8_tick_81 ?_
          refine jcl_v (run_V hC (cJ_X0_stepAside l G d0 mi Rf ja (ps4 Mi) E8 B hI4 hD4) (As := []) (rest := []) rfl rfl ml_X8_242 im_X0_stepAside se_X0_stepAside ini_X0 cd_X0_stepAside ⟨rfl, na_X0_stepAside⟩ jB_blind (hW.recv hK (show jV (ps4 Mi) 0 0 from rfl) rfl) (jB_at hX hRf hW hS) hl.1 (Nat.le_of_ble_eq_true rfl) ⟨Nat.le_of_ble_eq_true rfl, Nat.le_of_ble_eq_true rfl⟩ ⟨by show (cu + (2 * (nP (itR pkS (nR (tmS Mi)) (tmS Mi)) - nP (tmS Mi))) + (uC E7 5)) + 0 ≤ 2 * n + 2 * (nP (itP n M) - nP M); omega, by show (su + (gS (nP (itR pkS (nR (tmS Mi)) (tmS Mi))) - gS (nP (tmS Mi))) + (10 * uC E7 5)) + 0 ≤ 20 * n + (gS (nP (itP n M)) - gS (nP M)); omega⟩ rfl dX8_tick_84) hS (fun H locs hW hS => ?_)
          have hI5 := (ps5_eq hIi htm).1
          have hC5 : CE (ps5 Mi) E8 := by rw [← ps5_def hIi htm]; exact hC4.as hI4
          have hA5 := hC5.2.1
          have hu6 := uC_1 E8 6
          have hW : WJ G d0 Rf ja (ps5 Mi) E8 H := by rw [← ps5_def hIi htm]; exact hW
          refine lv_aload_n hx hb dX8_tick_87 rfl (lv_at hl 2 rfl) ?_
          refine r1_get hC hK.1 (hW.ob (show jV (ps5 Mi) 8 0 from rfl)) lay_X8 rfl 0 (by decide) fl_X8_10 (fun x hx => hx) (v := .ref (ja 0 0)) rfl dX8_tick_88 ?_
          refine jcl_vE (run_V hC (cJ_X0_moveOn l G d0 mi Rf ja (ps5 Mi) E8 B hI5 hA5) (As := []) (rest := []) rfl rfl ml_X8_245 im_X0_moveOn se_X0_moveOn ini_X0 cd_X0_moveOn ⟨rfl, na_X0_moveOn⟩ jB_blind (hW.recv hK (show jV (ps5 Mi) 0 0 from rfl) rfl) (jB_at hX hRf hW hS) hl.1 (Nat.le_of_ble_eq_true rfl) ⟨Nat.le_of_ble_eq_true rfl, Nat.le_of_ble_eq_true rfl⟩ ⟨by show (cu + (2 * (nP (itR pkS (nR (tmS Mi)) (tmS Mi)) - nP (tmS Mi))) + (uC E7 5)) + (uC E8 6) ≤ 2 * n + 2 * (nP (itP n M) - nP M); omega, by show (su + (gS (nP (itR pkS (nR (tmS Mi)) (tmS Mi))) - gS (nP (tmS Mi))) + (10 * uC E7 5)) + (10 * uC E8 6) ≤ 20 * n + (gS (nP (itP n M)) - gS (nP M)); omega⟩ rfl dX8_tick_91) hS (fun E10 hp10 H locs hW hS => ?_)
          have hI6 := (ps6_eq hIi htm).1
          have hC6 : CE (ps6 Mi) E10 := hC5.go hI5 hp10
          have hW : WJ G d0 Rf ja (ps6 Mi) E10 H := hW
          refine lv_aload_n hx hb dX8_tick_94 rfl (lv_at hl 2 rfl) ?_
          refine r1_get hC hK.1 (hW.ob (show jV (ps6 Mi) 8 0 from rfl)) lay_X8 rfl 0 (by decide) fl_X8_10 (fun x hx => hx) (v := .ref (ja 0 0)) rfl dX8_tick_95 ?_
          refine jcl_v (run_V hC (cJ_X0_arrive l G d0 mi Rf ja (ps6 Mi) E10 B hI6) (As := []) (rest := []) rfl rfl ml_X8_248 im_X0_arrive se_X0_arrive ini_X0 cd_X0_arrive ⟨rfl, na_X0_arrive⟩ jB_blind (hW.recv hK (show jV (ps6 Mi) 0 0 from rfl) rfl) (jB_at hX hRf hW hS) hl.1 (Nat.le_of_ble_eq_true rfl) ⟨Nat.le_of_ble_eq_true rfl, Nat.le_of_ble_eq_true rfl⟩ ⟨by show (cu + (2 * (nP (itR pkS (nR (tmS Mi)) (tmS Mi)) - nP (tmS Mi))) + (uC E7 5) + (uC E8 6)) + 0 ≤ 2 * n + 2 * (nP (itP n M) - nP M); omega, by show (su + (gS (nP (itR pkS (nR (tmS Mi)) (tmS Mi))) - gS (nP (tmS Mi))) + (10 * uC E7 5) + (10 * uC E8 6)) + 0 ≤ 20 * n + (gS (nP (itP n M)) - gS (nP M)); omega⟩ rfl dX8_tick_98) hS (fun H locs hW hS => ?_)
          have hC7 : CE (pasF Mi) E10 := by rw [← pas_def hIi htm]; exact hC6.arr hI6
          have hP7 := pas_P Mi
          have hW : WJ G d0 Rf ja (pasF Mi) E10 H := by rw [← pas_def hIi htm]; exact hW
          refine lv_iinc (v := nI (i + 1)) (lv' := [(3, .int (nI (i + 1))), (2, .int (nI (nP M))), (0, .ref (ja 8 0)), (1, .int (nI n))]) hx hb dX8_tick_101 hl (k := 0) rfl (nI_inc _) (by decide) rfl (fun ls hl => ?_)
          refine lv_goto (tgt := 39) hx hb dX8_tick_104 (by decide) ?_
          have hP8 : nP (itP (i + 1) M) = nP (ps1 Mi) := by rw [← hP7, hMi]; rfl
          have hW : WJ G d0 Rf ja (itP (i + 1) M) E10 H := by show WJ G d0 Rf ja (pasF (itP i M)) E10 H; rw [← hMi]; exact hW
          exact ih2 (i + 1) ja (cu + (2 * (nP (itR pkS (nR (tmS Mi)) (tmS Mi)) - nP (tmS Mi))) + (uC E7 5) + (uC E8 6)) (su + (gS (nP (itR pkS (nR (tmS Mi)) (tmS Mi))) - gS (nP (tmS Mi))) + (10 * uC E7 5) + (10 * uC E8 6)) (itP (i + 1) M) E10 H locs (by omega) rfl (by rw [hMi] at hC7; exact hC7) hj4 (by rw [hP8]; omega) (by rw [hP8]; omega) hW hS ls (by omega) (lv_sub hl [0, 1, 2, 3] rfl)
    exact loop2 ((n - 0) + 1) 0 ja 0 0 M E H locs (Nat.zero_le _) rfl hCE (by rw [← hja0]; exact J4.rf) (by show 0 + 2 * nP M ≤ 2 * 0 + 2 * nP M; omega) (by show 0 + gS (nP M) ≤ 20 * 0 + gS (nP M); omega) hW hS ls (by omega) (lv_sub hl [0, 1, 2, 3] rfl)
  · first | contradiction | omega
set_option maxHeartbeats 4000000 in
set_option maxRecDepth 100000 in
theorem cJ_X8_tickX1 (l : Launch) (G : gG) (d0 mi : Nat) (Rf : Nat → Prop) (ja : Nat → Nat → Nat) (M : MS) (E : ES) (x : Int32) (hno : ¬ (¬ x < 1 ∧ x ≤ 50)) (hl9 : l.stackTraces = false) : vx_Met l yX8_tick (wB yX8_tick cX8_tick 4 (some .int)) (rmL 3 1 6) (va_Pc [.ref (ja 8 0), .int x] (jT G d0 mi Rf ja M E)) xQ (xN xIAE) 1 6 (jA Rf) := by
  refine st_X (own := RX8) (by decide +kernel) rfl (Nat.le_of_ble_eq_true rfl) ?_
  intro p e s m below meth c ls args Q hQ hC hr hlk hex hl hP
  obtain ⟨⟨hW, hX, hRf⟩, hT9⟩ := hP
  have hK := hX.1
  have hx := hC.1
  have hb := hC.2.1
  have hl : lv_has ls 4 [(0, .ref (ja 8 0)), (1, .int x)] := hl
  have hS : va_S (jA Rf) s.heap s.heap [] := va_S.rf
  refine lv_iload_n hx hb dX8_tick_0 rfl (lv_at hl 1 rfl) ?_
  refine lv_iconst (v := 1) hx hb dX8_tick_1 (by decide) ?_
  refine lv_bipush (v := 50) hx hb dX8_tick_2 (by decide) ?_
  exact jx_call (run_SX hC (cJ_X8_requireRangeX l G d0 mi Rf ja M E x 1 50 hno hl9) (As := [.int x, .int 1, .int 50]) (rest := []) rfl rfl ml_X8_102 sm_X8_requireRange ini_X8 cd_X8_requireRange na_X8_requireRange jT_blind (jT_at hX hT9 hRf hW hS) hl.1 (Nat.le_of_ble_eq_true rfl) ⟨Nat.le_of_ble_eq_true rfl, Nat.le_of_ble_eq_true rfl⟩ ⟨Nat.le_refl _, Nat.le_refl _⟩ rfl dX8_tick_4) hQ hex hlk
set_option maxHeartbeats 4000000 in
set_option maxRecDepth 100000 in
theorem cJ_X8_tickX2 (l : Launch) (G : gG) (d0 mi : Nat) (Rf : Nat → Prop) (ja : Nat → Nat → Nat) (M : MS) (E : ES) (n : Nat) (B : Nat) (hI : INV B M) (h1 : 0 < n) (h2 : n ≤ 50) (h3 : ¬ tN M + n ≤ 3000) (hl9 : l.stackTraces = false) : vx_Met l yX8_tick (wB yX8_tick cX8_tick 4 (some .int)) (rmL 3 1 6) (va_Pc [.ref (ja 8 0), .int (nI n)] (jT G d0 mi Rf ja M E)) xQ (xN xISE) 1 6 (jA Rf) := by
  refine st_X (own := RX8) (by decide +kernel) rfl (Nat.le_of_ble_eq_true rfl) ?_
  intro p e s m below meth c ls args Q hQ hC hr hlk hex hl hP
  obtain ⟨⟨hW, hX, hRf⟩, hT9⟩ := hP
  have hK := hX.1
  have hx := hC.1
  have hb := hC.2.1
  have hl : lv_has ls 4 [(0, .ref (ja 8 0)), (1, .int (nI n))] := hl
  have hS : va_S (jA Rf) s.heap s.heap [] := va_S.rf
  have htM := hI.f.2.2.2.2.2.2.2.1
  have htM9 := hI.f.2.2.2.2.2.2.2.2
  refine lv_iload_n hx hb dX8_tick_0 rfl (lv_at hl 1 rfl) ?_
  refine lv_iconst (v := 1) hx hb dX8_tick_1 (by decide) ?_
  refine lv_bipush (v := 50) hx hb dX8_tick_2 (by decide) ?_
  refine cl_pv (run_S hC (cJ_X8_requireRange l (nI n) 1 50 (nI_one h1 (by omega)) ((nI_rg (j := n) (n := 50) (by omega) (by decide)).2)) (As := [.int (nI n), .int 1, .int 50]) (rest := []) rfl rfl ml_X8_102 sm_X8_requireRange ini_X8 cd_X8_requireRange na_X8_requireRange tB_blind (fun _ _ _ => trivial) hl.1 (Nat.le_of_ble_eq_true rfl) ⟨Nat.le_of_ble_eq_true rfl, Nat.le_of_ble_eq_true rfl⟩ ⟨by show 0 + 0 ≤ 1; omega, by show 0 + 0 ≤ 6; omega⟩ rfl dX8_tick_4) ?_
  refine lv_aload_n hx hb dX8_tick_7 rfl (lv_at hl 0 rfl) ?_
  refine r1_get hC hK.1 (hW.ob (show jV M 8 0 from rfl)) lay_X8 rfl 5 (by decide) fl_X8_32 (fun x hx => hx) (v := .int (nI (tN M))) (congrArg (fun z => some (Value.int z)) htM) dX8_tick_8 ?_
  refine lv_iload_n hx hb dX8_tick_11 rfl (lv_at hl 1 rfl) ?_
  refine lv_iadd hx hb dX8_tick_12 ?_
  refine top_i (y := nI ((tN M) + n)) (nI_add (tN M) n) ?_
  refine lv_sipush (v := 3000) hx hb dX8_tick_13 (by decide) ?_
  refine ln_le (tgt := 29) (a := ((tN M) + n)) (b := 3000) hx hb dX8_tick_16 (by decide) rfl rfl (by omega) (by omega) (fun c_1t => ?_) (fun c_1f => ?_)
  · exact absurd c_1t h3
  · exact jx_ISE hC hl9 hT9 hex hlk hl.1 (text := "the time would be too late") (by decide) ⟨Nat.le_of_ble_eq_true rfl, Nat.le_of_ble_eq_true rfl, Nat.le_refl _, Nat.le_refl _⟩ (by decide) hQ dX8_tick_19 dX8_tick_22 dX8_tick_23 dX8_tick_25 dX8_tick_28
