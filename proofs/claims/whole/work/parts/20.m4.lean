set_option maxHeartbeats 4000000 in
set_option maxRecDepth 100000 in
theorem c9_picksFrom (l : Launch) (G : gG) (ma : Nat → Nat) (M : MS) (D : mD) (r : Nat) (hI : mI ma) (hr6 : r < 6) (hk_ : ∃ k, k < 30 ∧ M 22 r = nI k) (ht_ : ∃ t, t < 16 ∧ M 21 r = nI t ∧ ∃ g, g < 6 ∧ M 8 t = nI g) (hpk : M 34 0 = nI (nP M)) (hpl : nP M < 1500) : Met l yX9_picksFrom (wB yX9_picksFrom cX9_picksFrom 4 none) (rmL 1 0 0) (va_Pc [.ref (ma 0), .int (nI r)] (mB G ma M D)) (mQv G ma none (fun M' => M' = pkF M r)) 0 0 (mA ma) := by
  refine st_N (own := RX9) (by decide +kernel) rfl (Nat.le_of_ble_eq_true rfl) ?_
  intro p e s m below meth c ls args Q hQ hC hr hlk hnm hl hP
  obtain ⟨hM, hK⟩ := hP
  have hx := hC.1
  have hb := hC.2.1
  have hl : lv_has ls 4 [(0, .ref (ma 0)), (1, .int (nI r))] := hl
  have hS : va_S (mA ma) s.heap s.heap [] := va_S.rf
  obtain ⟨H, locs, hHe, hLe⟩ : ∃ (H : Heap) (locs : List Loc), H = s.heap ∧ locs = [] := ⟨_, _, rfl, rfl⟩
  rw [← hHe] at hM
  have hS : va_S (mA ma) s.heap H locs := by rw [hHe, hLe]; exact va_S.rf
  suffices hgo : W p l e (rmL 1 0 0) s m args below meth c H locs 0 0 Q (F0 m 0 ls []) by
    rw [hHe, hLe] at hgo
    exact hgo
  clear hHe hLe
  obtain ⟨k, hk30, hk⟩ := hk_
  obtain ⟨t, ht16, ht, g, hg6, hg⟩ := ht_
  have hxk := ix_nI (n := k) (by omega)
  have hxt := ix_nI (n := t) (by omega)
  have hxg := ix_nI (n := g) (by omega)
  refine lv_aload_n hx hb dX9_picksFrom_0 rfl (lv_at hl 0 rfl) ?_
  refine ms_get hC hK hM 22 (by decide) fl_X9_56 rfl (v := .ref (ma 22)) rfl (fun q => rfl) dX9_picksFrom_1 ?_
  refine lv_iload_n hx hb dX9_picksFrom_4 rfl (lv_at hl 1 rfl) ?_
  refine ms_ild hC hK hM 22 (i := r) (show r < 6 from by omega) (by decide) rfl rfl (v := nI k) hk dX9_picksFrom_5 ?_
  refine lv_istore_n (lv' := [(2, .int (nI k)), (0, .ref (ma 0)), (1, .int (nI r))]) hx hb dX9_picksFrom_6 rfl hl (by decide) rfl (fun ls hl => ?_)
  refine lv_aload_n hx hb dX9_picksFrom_7 rfl (lv_at hl 1 rfl) ?_
  refine ms_get hC hK hM 21 (by decide) fl_X9_53 rfl (v := .ref (ma 21)) rfl (fun q => rfl) dX9_picksFrom_8 ?_
  refine lv_iload_n hx hb dX9_picksFrom_11 rfl (lv_at hl 2 rfl) ?_
  refine ms_ild hC hK hM 21 (i := r) (show r < 6 from by omega) (by decide) rfl rfl (v := nI t) ht dX9_picksFrom_12 ?_
  refine lv_istore_n (lv' := [(3, .int (nI t)), (2, .int (nI k)), (0, .ref (ma 0)), (1, .int (nI r))]) hx hb dX9_picksFrom_13 rfl hl (by decide) rfl (fun ls hl => ?_)
  refine lv_aload_n hx hb dX9_picksFrom_14 rfl (lv_at hl 2 rfl) ?_
  refine ms_get hC hK hM 9 (by decide) fl_X9_26 rfl (v := .ref (ma 9)) rfl (fun q => rfl) dX9_picksFrom_15 ?_
  refine lv_iload_n hx hb dX9_picksFrom_18 rfl (lv_at hl 0 rfl) ?_
  refine lv_dup2_11 hx hb dX9_picksFrom_19 rfl rfl ?_
  refine ms_ild hC hK hM 9 (i := t) (show t < 16 from by omega) (by decide) rfl rfl (v := M 9 t) rfl dX9_picksFrom_20 ?_
  refine lv_iconst (v := 1) hx hb dX9_picksFrom_21 (by decide) ?_
  refine lv_isub hx hb dX9_picksFrom_22 ?_
  refine ms_ist hC hK hI hM hS 9 (mA_k (by decide)) (i := t) (show t < 16 from by omega) rfl rfl dX9_picksFrom_23 (fun H locs hM hS => ?_)
  refine lv_aload_n hx hb dX9_picksFrom_24 rfl (lv_at hl 2 rfl) ?_
  refine ms_get hC hK hM 13 (by decide) fl_X9_35 rfl (v := .ref (ma 13)) rfl (fun q => rfl) dX9_picksFrom_25 ?_
  refine lv_iload_n hx hb dX9_picksFrom_28 rfl (lv_at hl 1 rfl) ?_
  refine lv_dup2_11 hx hb dX9_picksFrom_29 rfl rfl ?_
  refine ms_ild hC hK hM 13 (i := k) (show k < 30 from by omega) (by decide) rfl rfl (v := M 13 k) rfl dX9_picksFrom_30 ?_
  refine lv_iconst (v := 1) hx hb dX9_picksFrom_31 (by decide) ?_
  refine lv_isub hx hb dX9_picksFrom_32 ?_
  refine ms_ist hC hK hI hM hS 13 (mA_k (by decide)) (i := k) (show k < 30 from by omega) rfl rfl dX9_picksFrom_33 (fun H locs hM hS => ?_)
  refine lv_aload_n hx hb dX9_picksFrom_34 rfl (lv_at hl 2 rfl) ?_
  refine ms_get hC hK hM 33 (by decide) fl_X9_77 rfl (v := .ref (ma 33)) rfl (fun q => rfl) dX9_picksFrom_35 ?_
  refine lv_aload_n hx hb dX9_picksFrom_38 rfl (lv_at hl 2 rfl) ?_
  refine ms_get hC hK hM 8 (by decide) fl_X9_23 rfl (v := .ref (ma 8)) rfl (fun q => rfl) dX9_picksFrom_39 ?_
  refine lv_iload_n hx hb dX9_picksFrom_42 rfl (lv_at hl 0 rfl) ?_
  refine ms_ild hC hK hM 8 (i := t) (show t < 16 from by omega) (by decide) rfl rfl (v := nI g) hg dX9_picksFrom_43 ?_
  refine lv_dup2_11 hx hb dX9_picksFrom_44 rfl rfl ?_
  refine ms_ild hC hK hM 33 (i := g) (show g < 6 from by omega) (by decide) rfl rfl (v := M 33 g) rfl dX9_picksFrom_45 ?_
  refine lv_iconst (v := 1) hx hb dX9_picksFrom_46 (by decide) ?_
  refine lv_iadd hx hb dX9_picksFrom_47 ?_
  refine ms_ist hC hK hI hM hS 33 (mA_k (by decide)) (i := g) (show g < 6 from by omega) rfl rfl dX9_picksFrom_48 (fun H locs hM hS => ?_)
  refine lv_aload_n hx hb dX9_picksFrom_49 rfl (lv_at hl 2 rfl) ?_
  refine ms_get hC hK hM 35 (by decide) fl_X9_80 rfl (v := .ref (ma 35)) rfl (fun q => rfl) dX9_picksFrom_50 ?_
  refine lv_aload_n hx hb dX9_picksFrom_53 rfl (lv_at hl 2 rfl) ?_
  refine ms_get hC hK hM 34 (by decide) fl_X9_168 rfl (v := .int (nI (nP M))) (congrArg Value.int (show (mset (mset (mset M 9 t ((M 9 t) - 1)) 13 k ((M 13 k) - 1)) 33 g ((M 33 g) + 1)) 34 0 = (nI (nP M)) from hpk)) (fun q => rfl) dX9_picksFrom_54 ?_
  refine lv_iload_n hx hb dX9_picksFrom_57 rfl (lv_at hl 0 rfl) ?_
  refine ms_ist hC hK hI hM hS 35 (mA_k (by decide)) (i := (nP M)) (show nP M < 1500 from by omega) rfl rfl dX9_picksFrom_58 (fun H locs hM hS => ?_)
  refine lv_aload_n hx hb dX9_picksFrom_59 rfl (lv_at hl 2 rfl) ?_
  refine ms_get hC hK hM 36 (by decide) fl_X9_83 rfl (v := .ref (ma 36)) rfl (fun q => rfl) dX9_picksFrom_60 ?_
  refine lv_aload_n hx hb dX9_picksFrom_63 rfl (lv_at hl 2 rfl) ?_
  refine ms_get hC hK hM 34 (by decide) fl_X9_168 rfl (v := .int (nI (nP M))) (congrArg Value.int (show (mset (mset (mset (mset M 9 t ((M 9 t) - 1)) 13 k ((M 13 k) - 1)) 33 g ((M 33 g) + 1)) 35 (nP M) (nI t)) 34 0 = (nI (nP M)) from hpk)) (fun q => rfl) dX9_picksFrom_64 ?_
  refine lv_iload_n hx hb dX9_picksFrom_67 rfl (lv_at hl 1 rfl) ?_
  refine lv_iconst (v := 3) hx hb dX9_picksFrom_68 (by decide) ?_
  refine lv_idiv hx hb dX9_picksFrom_69 (by decide) ?_
  refine top_i (y := nI (k / 3)) (pk_div (a := k) (d := 3) (by omega) (by decide) (by decide)) ?_
  refine ms_ist hC hK hI hM hS 36 (mA_k (by decide)) (i := (nP M)) (show nP M < 1500 from by omega) rfl rfl dX9_picksFrom_70 (fun H locs hM hS => ?_)
  refine lv_aload_n hx hb dX9_picksFrom_71 rfl (lv_at hl 2 rfl) ?_
  refine ms_get hC hK hM 37 (by decide) fl_X9_86 rfl (v := .ref (ma 37)) rfl (fun q => rfl) dX9_picksFrom_72 ?_
  refine lv_aload_n hx hb dX9_picksFrom_75 rfl (lv_at hl 2 rfl) ?_
  refine ms_get hC hK hM 34 (by decide) fl_X9_168 rfl (v := .int (nI (nP M))) (congrArg Value.int (show (mset (mset (mset (mset (mset M 9 t ((M 9 t) - 1)) 13 k ((M 13 k) - 1)) 33 g ((M 33 g) + 1)) 35 (nP M) (nI t)) 36 (nP M) (nI (k / 3))) 34 0 = (nI (nP M)) from hpk)) (fun q => rfl) dX9_picksFrom_76 ?_
  refine lv_aload_n hx hb dX9_picksFrom_79 rfl (lv_at hl 2 rfl) ?_
  refine ms_get hC hK hM 1 (by decide) fl_X9_171 rfl (v := .int (M 1 0)) rfl (fun q => rfl) dX9_picksFrom_80 ?_
  refine ms_ist hC hK hI hM hS 37 (mA_k (by decide)) (i := (nP M)) (show nP M < 1500 from by omega) rfl rfl dX9_picksFrom_83 (fun H locs hM hS => ?_)
  refine lv_aload_n hx hb dX9_picksFrom_84 rfl (lv_at hl 2 rfl) ?_
  refine lv_dup hx hb dX9_picksFrom_85 rfl ?_
  refine ms_get hC hK hM 34 (by decide) fl_X9_168 rfl (v := .int (nI (nP M))) (congrArg Value.int (show (mset (mset (mset (mset (mset (mset M 9 t ((M 9 t) - 1)) 13 k ((M 13 k) - 1)) 33 g ((M 33 g) + 1)) 35 (nP M) (nI t)) 36 (nP M) (nI (k / 3))) 37 (nP M) (M 1 0)) 34 0 = (nI (nP M)) from hpk)) (fun q => rfl) dX9_picksFrom_86 ?_
  refine lv_iconst (v := 1) hx hb dX9_picksFrom_89 (by decide) ?_
  refine lv_iadd hx hb dX9_picksFrom_90 ?_
  refine top_i (y := nI ((nP M) + 1)) (nI_add (nP M) 1) ?_
  refine ms_put hC hK hI hM hS mA_0 34 (by decide) rfl fl_X9_168 rfl rfl rfl rfl dX9_picksFrom_91 (fun H locs hM hS => ?_)
  refine lv_aload_n hx hb dX9_picksFrom_94 rfl (lv_at hl 2 rfl) ?_
  refine ms_get hC hK hM 13 (by decide) fl_X9_35 rfl (v := .ref (ma 13)) rfl (fun q => rfl) dX9_picksFrom_95 ?_
  refine lv_iload_n hx hb dX9_picksFrom_98 rfl (lv_at hl 1 rfl) ?_
  refine ms_ild hC hK hM 13 (i := k) (show k < 30 from by omega) (by decide) rfl rfl (v := (M 13 k) - 1) (by simp [mset, upd]) dX9_picksFrom_99 ?_
  refine lv_if_eq (tgt := 112) hx hb dX9_picksFrom_100 (by decide) (fun c_1t => ?_) (fun c_1f => ?_)
  · refine lv_aload_n hx hb dX9_picksFrom_112 rfl (lv_at hl 2 rfl) ?_
    refine lv_iload_n hx hb dX9_picksFrom_113 rfl (lv_at hl 3 rfl) ?_
    refine lv_iconst (v := 4) hx hb dX9_picksFrom_114 (by decide) ?_
    refine mcl_v (run_V hC (c9_becomes l G ma (mset (mset (mset (mset (mset (mset (mset M 9 t ((M 9 t) - 1)) 13 k ((M 13 k) - 1)) 33 g ((M 33 g) + 1)) 35 (nP M) (nI t)) 36 (nP M) (nI (k / 3))) 37 (nP M) (M 1 0)) 34 0 (nI ((nP M) + 1))) D r 4 hI (by omega)) (As := [.int (nI r), .int 4]) (rest := []) rfl rfl ml_X9_162 im_X9_becomes se_X9_becomes ini_X9 cd_X9_becomes ⟨rfl, na_X9_becomes⟩ mB_blind (mr_recv hK hM) (mr_B hK hM) hl.1 (Nat.le_of_ble_eq_true rfl) ⟨Nat.le_of_ble_eq_true rfl, Nat.le_of_ble_eq_true rfl⟩ ⟨Nat.le_refl _, Nat.le_refl _⟩ rfl dX9_picksFrom_115) hS (fun _ h => h) (fun M2 H locs hp2 hM hS => ?_)
    rw [hp2] at hM
    subst hQ
    exact rt_mv hx hb hr hlk hM.none hS  (by simp [pkF, pkB, hk, ht, hg, hxk, hxt, hxg, c_1t]) dX9_picksFrom_118
  · refine lv_aload_n hx hb dX9_picksFrom_103 rfl (lv_at hl 2 rfl) ?_
    refine ms_get hC hK hM 9 (by decide) fl_X9_26 rfl (v := .ref (ma 9)) rfl (fun q => rfl) dX9_picksFrom_104 ?_
    refine lv_iload_n hx hb dX9_picksFrom_107 rfl (lv_at hl 0 rfl) ?_
    refine ms_ild hC hK hM 9 (i := t) (show t < 16 from by omega) (by decide) rfl rfl (v := (M 9 t) - 1) (by simp [mset, upd]) dX9_picksFrom_108 ?_
    refine lv_if_ne (tgt := 118) hx hb dX9_picksFrom_109 (by decide) (fun c_3t => ?_) (fun c_3f => ?_)
    · subst hQ
      exact rt_mv hx hb hr hlk hM.none hS  (by simp [pkF, pkB, hk, ht, hg, hxk, hxt, hxg, c_1f, c_3t]) dX9_picksFrom_118
    · refine lv_aload_n hx hb dX9_picksFrom_112 rfl (lv_at hl 2 rfl) ?_
      refine lv_iload_n hx hb dX9_picksFrom_113 rfl (lv_at hl 3 rfl) ?_
      refine lv_iconst (v := 4) hx hb dX9_picksFrom_114 (by decide) ?_
      refine mcl_v (run_V hC (c9_becomes l G ma (mset (mset (mset (mset (mset (mset (mset M 9 t ((M 9 t) - 1)) 13 k ((M 13 k) - 1)) 33 g ((M 33 g) + 1)) 35 (nP M) (nI t)) 36 (nP M) (nI (k / 3))) 37 (nP M) (M 1 0)) 34 0 (nI ((nP M) + 1))) D r 4 hI (by omega)) (As := [.int (nI r), .int 4]) (rest := []) rfl rfl ml_X9_162 im_X9_becomes se_X9_becomes ini_X9 cd_X9_becomes ⟨rfl, na_X9_becomes⟩ mB_blind (mr_recv hK hM) (mr_B hK hM) hl.1 (Nat.le_of_ble_eq_true rfl) ⟨Nat.le_of_ble_eq_true rfl, Nat.le_of_ble_eq_true rfl⟩ ⟨Nat.le_refl _, Nat.le_refl _⟩ rfl dX9_picksFrom_115) hS (fun _ h => h) (fun M4 H locs hp4 hM hS => ?_)
      rw [hp4] at hM
      subst hQ
      exact rt_mv hx hb hr hlk hM.none hS  (by simp [pkF, pkB, hk, ht, hg, hxk, hxt, hxg, c_1f, c_3f]) dX9_picksFrom_118
set_option maxHeartbeats 4000000 in
set_option maxRecDepth 100000 in
theorem c9_hasRobot (l : Launch) (G : gG) (ma : Nat → Nat) (M : MS) (D : mD) (sn : Int32) (hcnt : CNT M) (hW : ∀ r, r < nR M → M 22 r = -1 ∨ ∃ k, k < 30 ∧ M 22 r = nI k) : Met l yX9_hasRobot (wB yX9_hasRobot cX9_hasRobot 4 (some .boolean)) (rmL 0 0 0) (va_Pc [.ref (ma 0), .int sn] (mB G ma M D)) (k2_QcV (.int (bI (hasB M sn)))) 0 0 fN := by
  refine st_N (own := RX9) (by decide +kernel) rfl (Nat.le_of_ble_eq_true rfl) ?_
  intro p e s m below meth c ls args Q hQ hC hr hlk hnm hl hP
  obtain ⟨hM, hK⟩ := hP
  have hx := hC.1
  have hb := hC.2.1
  have hl : lv_has ls 4 [(0, .ref (ma 0)), (1, .int sn)] := hl
  have h6 := hcnt.R6
  have h3 := hcnt.S3
  have h16 := hcnt.T16
  have h10 := hcnt.O10
  refine lv_iconst (v := 0) hx hb dX9_hasRobot_0 (by decide) ?_
  refine lv_istore_n (lv' := [(2, .int 0), (0, .ref (ma 0)), (1, .int sn)]) hx hb dX9_hasRobot_1 rfl hl (by decide) rfl (fun ls hl => ?_)
  refine lv_iconst (v := 0) hx hb dX9_hasRobot_2 (by decide) ?_
  refine lv_istore_n (lv' := [(3, .int 0), (2, .int 0), (0, .ref (ma 0)), (1, .int sn)]) hx hb dX9_hasRobot_3 rfl hl (by decide) rfl (fun ls hl => ?_)
  have loop1 : ∀ (n : Nat) (r : Nat) (ls : Array Slot) (hrn : r ≤ nR M), nR M - r < n → lv_has ls 4 [(3, .int (nI r)), (2, .int (bI (anyB (wkB M sn) r))), (0, .ref (ma 0)), (1, .int sn)] → W p l e (rmL 0 0 0) s m args below meth c s.heap [] 0 0 Q (F0 m 4 ls []) := by
    intro n
    induction n with
    | zero => intro r ls hrn hm hl; omega
    | succ n ih1 =>
      intro r ls hrn hm hl
      refine lv_iload_n hx hb dX9_hasRobot_4 rfl (lv_at hl 0 rfl) ?_
      refine lv_aload_n hx hb dX9_hasRobot_5 rfl (lv_at hl 2 rfl) ?_
      refine ms_get hC hK hM 17 (by decide) fl_X9_103 rfl (v := .int (nI (nR M))) (congrArg Value.int (show M 17 0 = (nI (nR M)) from hcnt.R)) (fun q => rfl) dX9_hasRobot_6 ?_
      refine ln_ge (tgt := 53) (a := r) (b := (nR M)) hx hb dX9_hasRobot_9 (by decide) rfl rfl (by omega) (by omega) (fun c_2t => ?_) (fun c_2f => ?_)
      · refine lv_iload_n hx hb dX9_hasRobot_53 rfl (lv_at hl 1 rfl) ?_
        subst hQ
        exact rt_z hx hb hr hlk (by rw [hasB, show r = nR M by omega]) dX9_hasRobot_54
      · refine lv_iload_n hx hb dX9_hasRobot_12 rfl (lv_at hl 1 rfl) ?_
        refine lb_ne (tgt := 41) (b := (anyB (wkB M sn) r)) hx hb dX9_hasRobot_13 (by decide) (fun c_3t => ?_) (fun c_3f => ?_)
        · refine lv_iconst (v := 1) hx hb dX9_hasRobot_41 (by decide) ?_
          refine lv_goto (tgt := 46) hx hb dX9_hasRobot_42 (by decide) ?_
          refine lv_istore_n (lv' := [(2, .int 1), (3, .int (nI r)), (0, .ref (ma 0)), (1, .int sn)]) hx hb dX9_hasRobot_46 rfl hl (by decide) rfl (fun ls hl => ?_)
          have hsum : 1 = bI (anyB (wkB M sn) (r + 1)) := by simp [anyB, wkB, bI, nI_m1, c_2f, c_3t]
          rw [hsum] at hl
          have hl : lv_has ls 4 [(2, .int (bI (anyB (wkB M sn) (r + 1)))), (3, .int (nI r)), (0, .ref (ma 0)), (1, .int sn)] := hl
          refine lv_iinc (v := nI (r + 1)) (lv' := [(3, .int (nI (r + 1))), (2, .int (bI (anyB (wkB M sn) (r + 1)))), (0, .ref (ma 0)), (1, .int sn)]) hx hb dX9_hasRobot_47 hl (k := 1) rfl (nI_inc _) (by decide) rfl (fun ls hl => ?_)
          refine lv_goto (tgt := 4) hx hb dX9_hasRobot_50 (by decide) ?_
          exact ih1 (r + 1) ls (by omega) (by omega) (lv_sub hl [0, 1, 2, 3] rfl)
        · rcases hW r (by omega) with hw4 | ⟨k4, hk30_4, hw4⟩
          · refine lv_aload_n hx hb dX9_hasRobot_16 rfl (lv_at hl 2 rfl) ?_
            refine ms_get hC hK hM 22 (by decide) fl_X9_56 rfl (v := .ref (ma 22)) rfl (fun q => rfl) dX9_hasRobot_17 ?_
            refine lv_iload_n hx hb dX9_hasRobot_20 rfl (lv_at hl 0 rfl) ?_
            refine ms_ild hC hK hM 22 (i := r) (show r < 6 from by omega) (by decide) rfl rfl (v := (-1)) hw4 dX9_hasRobot_21 ?_
            refine lv_iconst (v := (-1)) hx hb dX9_hasRobot_22 (by decide) ?_
            refine lv_icmp_eq (tgt := 45) hx hb dX9_hasRobot_23 (by decide) (fun _ => ?_) (fun c => absurd c (by decide))
            refine lv_iconst (v := 0) hx hb dX9_hasRobot_45 (by decide) ?_
            refine lv_istore_n (lv' := [(2, .int 0), (3, .int (nI r)), (0, .ref (ma 0)), (1, .int sn)]) hx hb dX9_hasRobot_46 rfl hl (by decide) rfl (fun ls hl => ?_)
            have hsum : 0 = bI (anyB (wkB M sn) (r + 1)) := by simp [anyB, wkB, bI, nI_m1, c_2f, c_3f, hw4]
            rw [hsum] at hl
            have hl : lv_has ls 4 [(2, .int (bI (anyB (wkB M sn) (r + 1)))), (3, .int (nI r)), (0, .ref (ma 0)), (1, .int sn)] := hl
            refine lv_iinc (v := nI (r + 1)) (lv' := [(3, .int (nI (r + 1))), (2, .int (bI (anyB (wkB M sn) (r + 1)))), (0, .ref (ma 0)), (1, .int sn)]) hx hb dX9_hasRobot_47 hl (k := 1) rfl (nI_inc _) (by decide) rfl (fun ls hl => ?_)
            refine lv_goto (tgt := 4) hx hb dX9_hasRobot_50 (by decide) ?_
            exact ih1 (r + 1) ls (by omega) (by omega) (lv_sub hl [0, 1, 2, 3] rfl)
          · have hxk4 := ix_nI (n := k4) (by omega)
            have hne4 := nI_m1 (k := k4) (by omega)
            refine lv_aload_n hx hb dX9_hasRobot_16 rfl (lv_at hl 2 rfl) ?_
            refine ms_get hC hK hM 22 (by decide) fl_X9_56 rfl (v := .ref (ma 22)) rfl (fun q => rfl) dX9_hasRobot_17 ?_
            refine lv_iload_n hx hb dX9_hasRobot_20 rfl (lv_at hl 0 rfl) ?_
            refine ms_ild hC hK hM 22 (i := r) (show r < 6 from by omega) (by decide) rfl rfl (v := nI k4) hw4 dX9_hasRobot_21 ?_
            refine lv_iconst (v := (-1)) hx hb dX9_hasRobot_22 (by decide) ?_
            refine lv_icmp_eq (tgt := 45) hx hb dX9_hasRobot_23 (by decide) (fun c => absurd c (nI_m1 (by omega))) (fun _ => ?_)
            refine lv_aload_n hx hb dX9_hasRobot_26 rfl (lv_at hl 2 rfl) ?_
            refine ms_get hC hK hM 14 (by decide) fl_X9_38 rfl (v := .ref (ma 14)) rfl (fun q => rfl) dX9_hasRobot_27 ?_
            refine lv_aload_n hx hb dX9_hasRobot_30 rfl (lv_at hl 2 rfl) ?_
            refine ms_get hC hK hM 22 (by decide) fl_X9_56 rfl (v := .ref (ma 22)) rfl (fun q => rfl) dX9_hasRobot_31 ?_
            refine lv_iload_n hx hb dX9_hasRobot_34 rfl (lv_at hl 0 rfl) ?_
            refine ms_ild hC hK hM 22 (i := r) (show r < 6 from by omega) (by decide) rfl rfl (v := nI k4) hw4 dX9_hasRobot_35 ?_
            refine ms_ild hC hK hM 14 (i := k4) (show k4 < 30 from by omega) (by decide) rfl rfl (v := M 14 k4) rfl dX9_hasRobot_36 ?_
            refine lv_iload_n hx hb dX9_hasRobot_37 rfl (lv_at hl 3 rfl) ?_
            refine lv_icmp_ne (tgt := 45) hx hb dX9_hasRobot_38 (by decide) (fun c_7t => ?_) (fun c_7f => ?_)
            · refine lv_iconst (v := 0) hx hb dX9_hasRobot_45 (by decide) ?_
              refine lv_istore_n (lv' := [(2, .int 0), (3, .int (nI r)), (0, .ref (ma 0)), (1, .int sn)]) hx hb dX9_hasRobot_46 rfl hl (by decide) rfl (fun ls hl => ?_)
              have hsum : 0 = bI (anyB (wkB M sn) (r + 1)) := by simp [anyB, wkB, bI, nI_m1, c_2f, c_3f, hw4, hxk4, hne4, c_7t]
              rw [hsum] at hl
              have hl : lv_has ls 4 [(2, .int (bI (anyB (wkB M sn) (r + 1)))), (3, .int (nI r)), (0, .ref (ma 0)), (1, .int sn)] := hl
              refine lv_iinc (v := nI (r + 1)) (lv' := [(3, .int (nI (r + 1))), (2, .int (bI (anyB (wkB M sn) (r + 1)))), (0, .ref (ma 0)), (1, .int sn)]) hx hb dX9_hasRobot_47 hl (k := 1) rfl (nI_inc _) (by decide) rfl (fun ls hl => ?_)
              refine lv_goto (tgt := 4) hx hb dX9_hasRobot_50 (by decide) ?_
              exact ih1 (r + 1) ls (by omega) (by omega) (lv_sub hl [0, 1, 2, 3] rfl)
            · refine lv_iconst (v := 1) hx hb dX9_hasRobot_41 (by decide) ?_
              refine lv_goto (tgt := 46) hx hb dX9_hasRobot_42 (by decide) ?_
              refine lv_istore_n (lv' := [(2, .int 1), (3, .int (nI r)), (0, .ref (ma 0)), (1, .int sn)]) hx hb dX9_hasRobot_46 rfl hl (by decide) rfl (fun ls hl => ?_)
              have hsum : 1 = bI (anyB (wkB M sn) (r + 1)) := by simp [anyB, wkB, bI, nI_m1, c_2f, c_3f, hw4, hxk4, hne4, c_7f]
              rw [hsum] at hl
              have hl : lv_has ls 4 [(2, .int (bI (anyB (wkB M sn) (r + 1)))), (3, .int (nI r)), (0, .ref (ma 0)), (1, .int sn)] := hl
              refine lv_iinc (v := nI (r + 1)) (lv' := [(3, .int (nI (r + 1))), (2, .int (bI (anyB (wkB M sn) (r + 1)))), (0, .ref (ma 0)), (1, .int sn)]) hx hb dX9_hasRobot_47 hl (k := 1) rfl (nI_inc _) (by decide) rfl (fun ls hl => ?_)
              refine lv_goto (tgt := 4) hx hb dX9_hasRobot_50 (by decide) ?_
              exact ih1 (r + 1) ls (by omega) (by omega) (lv_sub hl [0, 1, 2, 3] rfl)
  exact loop1 ((nR M - 0) + 1) 0 ls (by omega) (by omega) (lv_sub hl [0, 1, 2, 3] rfl)
set_option maxHeartbeats 4000000 in
set_option maxRecDepth 100000 in
theorem c9_trayFor (l : Launch) (G : gG) (ma : Nat → Nat) (M : MS) (D : mD) (sn : Nat) (k : Nat) (hI : mI ma) (hcnt : CNT M) (hsn : sn < nS M) (hk : k < 30) (hH : ∀ t, t < nT M → ∃ j, j < 64 ∧ M 7 t = nI j) (hSC : ∀ s, s < nS M → ∃ j, j < 64 ∧ M 5 s = nI j) : Met l yX9_trayFor (wB yX9_trayFor cX9_trayFor 9 (some .int)) (rmL 4 0 0) (va_Pc [.ref (ma 0), .int (nI sn), .int (nI k)] (mB G ma M D)) (mQi G ma none (fun r M' => r = oI ((trayB M sn k).map (fun q => q.1)) ∧ M' = M)) 0 0 (mA ma) := by
  refine st_N (own := RX9) (by decide +kernel) rfl (Nat.le_of_ble_eq_true rfl) ?_
  intro p e s m below meth c ls args Q hQ hC hr hlk hnm hl hP
  obtain ⟨hM, hK⟩ := hP
  have hx := hC.1
  have hb := hC.2.1
  have hl : lv_has ls 9 [(0, .ref (ma 0)), (1, .int (nI sn)), (2, .int (nI k))] := hl
  have hS : va_S (mA ma) s.heap s.heap [] := va_S.rf
  obtain ⟨H, locs, hHe, hLe⟩ : ∃ (H : Heap) (locs : List Loc), H = s.heap ∧ locs = [] := ⟨_, _, rfl, rfl⟩
  rw [← hHe] at hM
  have hS : va_S (mA ma) s.heap H locs := by rw [hHe, hLe]; exact va_S.rf
  suffices hgo : W p l e (rmL 4 0 0) s m args below meth c H locs 0 0 Q (F0 m 0 ls []) by
    rw [hHe, hLe] at hgo
    exact hgo
  clear hHe hLe
  have h6 := hcnt.R6
  have h3 := hcnt.S3
  have h16 := hcnt.T16
  have h10 := hcnt.O10
  obtain ⟨js, hjs64, hjs⟩ := hSC sn hsn
  have hxs := ix_nI (n := js) (by omega)
  refine lv_iconst (v := (-1)) hx hb dX9_trayFor_0 (by decide) ?_
  refine lv_istore_n (lv' := [(3, .int (-1)), (0, .ref (ma 0)), (1, .int (nI sn)), (2, .int (nI k))]) hx hb dX9_trayFor_1 rfl hl (by decide) rfl (fun ls hl => ?_)
  refine lv_iconst (v := 0) hx hb dX9_trayFor_2 (by decide) ?_
  refine lv_istore (lv' := [(4, .int 0), (3, .int (-1)), (0, .ref (ma 0)), (1, .int (nI sn)), (2, .int (nI k))]) hx hb dX9_trayFor_3 hl (by decide) rfl (fun ls hl => ?_)
  refine lv_iconst (v := 0) hx hb dX9_trayFor_5 (by decide) ?_
  refine lv_istore (lv' := [(5, .int 0), (4, .int 0), (3, .int (-1)), (0, .ref (ma 0)), (1, .int (nI sn)), (2, .int (nI k))]) hx hb dX9_trayFor_6 hl (by decide) rfl (fun ls hl => ?_)
  have loop1 : ∀ (n : Nat) (t : Nat) (b : Option (Nat × Nat)) (H : Heap) (locs : List Loc) (ls : Array Slot) (hin : t ≤ nT M) (hbb : b = bst (tfF M sn k) t) (hb64 : ∀ p, b = some p → p.1 < t ∧ p.2 ≤ 64) (hM : WS G ma M none H) (hS : va_S (mA ma) s.heap H locs), nT M - t < n → lv_has ls 9 [(5, .int (nI t)), (4, .int (nI ((b.map (fun q => q.2)).getD 0))), (3, .int (oI (b.map (fun q => q.1)))), (0, .ref (ma 0)), (1, .int (nI sn)), (2, .int (nI k))] → W p l e (rmL 4 0 0) s m args below meth c H locs 0 0 Q (F0 m 8 ls []) := by
    intro n
    induction n with
    | zero => intro t b H locs ls hin hbb hb64 hM hS hm hl; omega
    | succ n ih1 =>
      intro t b H locs ls hin hbb hb64 hM hS hm hl
      refine lv_iload hx hb dX9_trayFor_8 (lv_at hl 0 rfl) ?_
      refine lv_aload_n hx hb dX9_trayFor_10 rfl (lv_at hl 3 rfl) ?_
      refine ms_get hC hK hM 6 (by decide) fl_X9_109 rfl (v := .int (nI (nT M))) (congrArg Value.int (show M 6 0 = (nI (nT M)) from hcnt.T)) (fun q => rfl) dX9_trayFor_11 ?_
      refine ln_ge (tgt := 157) (a := t) (b := (nT M)) hx hb dX9_trayFor_14 (by decide) rfl rfl (by omega) (by omega) (fun c_2t => ?_) (fun c_2f => ?_)
      · refine lv_iload_n hx hb dX9_trayFor_157 rfl (lv_at hl 2 rfl) ?_
        subst hQ
        exact rt_mi hx hb hr hlk hM.none hS  (⟨by rw [hbb, show t = nT M by omega]; rfl, rfl⟩) dX9_trayFor_158
      · rcases hq3 : b with _ | p3
        · have hl : lv_has ls 9 [(5, .int (nI t)), (4, .int (nI 0)), (3, .int (-1)), (0, .ref (ma 0)), (1, .int (nI sn)), (2, .int (nI k))] := by rw [hq3] at hl; exact hl
          refine lv_aload_n hx hb dX9_trayFor_17 rfl (lv_at hl 3 rfl) ?_
          refine ms_get hC hK hM 8 (by decide) fl_X9_23 rfl (v := .ref (ma 8)) rfl (fun q => rfl) dX9_trayFor_18 ?_
          refine lv_iload hx hb dX9_trayFor_21 (lv_at hl 0 rfl) ?_
          refine ms_ild hC hK hM 8 (i := t) (show t < 16 from by omega) (by decide) rfl rfl (v := M 8 t) rfl dX9_trayFor_23 ?_
          refine lv_aload_n hx hb dX9_trayFor_24 rfl (lv_at hl 3 rfl) ?_
          refine ms_get hC hK hM 12 (by decide) fl_X9_32 rfl (v := .ref (ma 12)) rfl (fun q => rfl) dX9_trayFor_25 ?_
          refine lv_iload_n hx hb dX9_trayFor_28 rfl (lv_at hl 5 rfl) ?_
          refine ms_ild hC hK hM 12 (i := k) (show k < 30 from by omega) (by decide) rfl rfl (v := M 12 k) rfl dX9_trayFor_29 ?_
          refine lv_icmp_ne (tgt := 69) hx hb dX9_trayFor_30 (by decide) (fun c_4t => ?_) (fun c_4f => ?_)
          · refine lv_iconst (v := 0) hx hb dX9_trayFor_69 (by decide) ?_
            refine lv_istore (lv' := [(6, .int 0), (5, .int (nI t)), (4, .int (nI 0)), (3, .int (-1)), (0, .ref (ma 0)), (1, .int (nI sn)), (2, .int (nI k))]) hx hb dX9_trayFor_70 hl (by decide) rfl (fun ls hl => ?_)
            refine lv_iload hx hb dX9_trayFor_72 (lv_at hl 0 rfl) ?_
            refine lv_if_eq (tgt := 97) hx hb dX9_trayFor_74 (by decide) (fun _ => ?_) (fun c => absurd c (by decide))
            refine lv_iconst (v := (-1)) hx hb dX9_trayFor_97 (by decide) ?_
            refine lv_istore (lv' := [(7, .int (-1)), (6, .int 0), (5, .int (nI t)), (4, .int (nI 0)), (3, .int (-1)), (0, .ref (ma 0)), (1, .int (nI sn)), (2, .int (nI k))]) hx hb dX9_trayFor_98 hl (by decide) rfl (fun ls hl => ?_)
            refine lv_iload hx hb dX9_trayFor_100 (lv_at hl 0 rfl) ?_
            refine lv_iconst (v := (-1)) hx hb dX9_trayFor_102 (by decide) ?_
            refine lv_icmp_eq (tgt := 122) hx hb dX9_trayFor_103 (by decide) (fun _ => ?_) (fun c => absurd c (by decide))
            refine lv_iconst (v := 0) hx hb dX9_trayFor_122 (by decide) ?_
            refine lv_istore (lv' := [(8, .int 0), (7, .int (-1)), (6, .int 0), (5, .int (nI t)), (4, .int (nI 0)), (3, .int (-1)), (0, .ref (ma 0)), (1, .int (nI sn)), (2, .int (nI k))]) hx hb dX9_trayFor_123 hl (by decide) rfl (fun ls hl => ?_)
            refine lv_iload hx hb dX9_trayFor_125 (lv_at hl 0 rfl) ?_
            refine lv_if_eq (tgt := 135) hx hb dX9_trayFor_127 (by decide) (fun _ => ?_) (fun c => absurd c (by decide))
            refine lv_iload_n hx hb dX9_trayFor_135 rfl (lv_at hl 5 rfl) ?_
            refine lv_istore_n (lv' := [(3, .int (-1)), (8, .int 0), (7, .int (-1)), (6, .int 0), (5, .int (nI t)), (4, .int (nI 0)), (0, .ref (ma 0)), (1, .int (nI sn)), (2, .int (nI k))]) hx hb dX9_trayFor_136 rfl hl (by decide) rfl (fun ls hl => ?_)
            refine lv_iload hx hb dX9_trayFor_137 (lv_at hl 1 rfl) ?_
            refine lv_if_eq (tgt := 147) hx hb dX9_trayFor_139 (by decide) (fun _ => ?_) (fun c => absurd c (by decide))
            refine lv_iload hx hb dX9_trayFor_147 (lv_at hl 5 rfl) ?_
            refine lv_istore (lv' := [(4, .int (nI 0)), (3, .int (-1)), (8, .int 0), (7, .int (-1)), (6, .int 0), (5, .int (nI t)), (0, .ref (ma 0)), (1, .int (nI sn)), (2, .int (nI k))]) hx hb dX9_trayFor_149 hl (by decide) rfl (fun ls hl => ?_)
            refine lv_iinc (v := nI (t + 1)) (lv' := [(5, .int (nI (t + 1))), (4, .int (nI 0)), (3, .int (-1)), (8, .int 0), (7, .int (-1)), (6, .int 0), (0, .ref (ma 0)), (1, .int (nI sn)), (2, .int (nI k))]) hx hb dX9_trayFor_151 hl (k := 5) rfl (nI_inc _) (by decide) rfl (fun ls hl => ?_)
            refine lv_goto (tgt := 8) hx hb dX9_trayFor_154 (by decide) ?_
            exact ih1 (t + 1) none H locs ls (by omega) (hq3.symm.trans (hbb.trans (bst_skip (by simp [tfF, canT, hjs, hxs, c_2f, c_4t])).symm)) (fun p hp => by cases hp) hM hS (by omega) (lv_sub hl [0, 1, 2, 6, 7, 8] rfl)
          · refine lv_aload_n hx hb dX9_trayFor_33 rfl (lv_at hl 3 rfl) ?_
            refine ms_get hC hK hM 9 (by decide) fl_X9_26 rfl (v := .ref (ma 9)) rfl (fun q => rfl) dX9_trayFor_34 ?_
            refine lv_iload hx hb dX9_trayFor_37 (lv_at hl 0 rfl) ?_
            refine ms_ild hC hK hM 9 (i := t) (show t < 16 from by omega) (by decide) rfl rfl (v := M 9 t) rfl dX9_trayFor_39 ?_
            refine lv_if_le (tgt := 69) hx hb dX9_trayFor_40 (by decide) (fun c_9t => ?_) (fun c_9f => ?_)
            · refine lv_iconst (v := 0) hx hb dX9_trayFor_69 (by decide) ?_
              refine lv_istore (lv' := [(6, .int 0), (5, .int (nI t)), (4, .int (nI 0)), (3, .int (-1)), (0, .ref (ma 0)), (1, .int (nI sn)), (2, .int (nI k))]) hx hb dX9_trayFor_70 hl (by decide) rfl (fun ls hl => ?_)
              refine lv_iload hx hb dX9_trayFor_72 (lv_at hl 0 rfl) ?_
              refine lv_if_eq (tgt := 97) hx hb dX9_trayFor_74 (by decide) (fun _ => ?_) (fun c => absurd c (by decide))
              refine lv_iconst (v := (-1)) hx hb dX9_trayFor_97 (by decide) ?_
              refine lv_istore (lv' := [(7, .int (-1)), (6, .int 0), (5, .int (nI t)), (4, .int (nI 0)), (3, .int (-1)), (0, .ref (ma 0)), (1, .int (nI sn)), (2, .int (nI k))]) hx hb dX9_trayFor_98 hl (by decide) rfl (fun ls hl => ?_)
              refine lv_iload hx hb dX9_trayFor_100 (lv_at hl 0 rfl) ?_
              refine lv_iconst (v := (-1)) hx hb dX9_trayFor_102 (by decide) ?_
              refine lv_icmp_eq (tgt := 122) hx hb dX9_trayFor_103 (by decide) (fun _ => ?_) (fun c => absurd c (by decide))
              refine lv_iconst (v := 0) hx hb dX9_trayFor_122 (by decide) ?_
              refine lv_istore (lv' := [(8, .int 0), (7, .int (-1)), (6, .int 0), (5, .int (nI t)), (4, .int (nI 0)), (3, .int (-1)), (0, .ref (ma 0)), (1, .int (nI sn)), (2, .int (nI k))]) hx hb dX9_trayFor_123 hl (by decide) rfl (fun ls hl => ?_)
              refine lv_iload hx hb dX9_trayFor_125 (lv_at hl 0 rfl) ?_
              refine lv_if_eq (tgt := 135) hx hb dX9_trayFor_127 (by decide) (fun _ => ?_) (fun c => absurd c (by decide))
              refine lv_iload_n hx hb dX9_trayFor_135 rfl (lv_at hl 5 rfl) ?_
              refine lv_istore_n (lv' := [(3, .int (-1)), (8, .int 0), (7, .int (-1)), (6, .int 0), (5, .int (nI t)), (4, .int (nI 0)), (0, .ref (ma 0)), (1, .int (nI sn)), (2, .int (nI k))]) hx hb dX9_trayFor_136 rfl hl (by decide) rfl (fun ls hl => ?_)
              refine lv_iload hx hb dX9_trayFor_137 (lv_at hl 1 rfl) ?_
              refine lv_if_eq (tgt := 147) hx hb dX9_trayFor_139 (by decide) (fun _ => ?_) (fun c => absurd c (by decide))
              refine lv_iload hx hb dX9_trayFor_147 (lv_at hl 5 rfl) ?_
              refine lv_istore (lv' := [(4, .int (nI 0)), (3, .int (-1)), (8, .int 0), (7, .int (-1)), (6, .int 0), (5, .int (nI t)), (0, .ref (ma 0)), (1, .int (nI sn)), (2, .int (nI k))]) hx hb dX9_trayFor_149 hl (by decide) rfl (fun ls hl => ?_)
              refine lv_iinc (v := nI (t + 1)) (lv' := [(5, .int (nI (t + 1))), (4, .int (nI 0)), (3, .int (-1)), (8, .int 0), (7, .int (-1)), (6, .int 0), (0, .ref (ma 0)), (1, .int (nI sn)), (2, .int (nI k))]) hx hb dX9_trayFor_151 hl (k := 5) rfl (nI_inc _) (by decide) rfl (fun ls hl => ?_)
              refine lv_goto (tgt := 8) hx hb dX9_trayFor_154 (by decide) ?_
              exact ih1 (t + 1) none H locs ls (by omega) (hq3.symm.trans (hbb.trans (bst_skip (by simp [tfF, canT, hjs, hxs, c_2f, c_4f, c_9t])).symm)) (fun p hp => by cases hp) hM hS (by omega) (lv_sub hl [0, 1, 2, 6, 7, 8] rfl)
            · refine lv_aload_n hx hb dX9_trayFor_43 rfl (lv_at hl 3 rfl) ?_
              refine lv_iload hx hb dX9_trayFor_44 (lv_at hl 0 rfl) ?_
              refine lv_iconst (v := 0) hx hb dX9_trayFor_46 (by decide) ?_
              refine cl_p (run_V hC (c9_robotWith l G ma M none (nI t) false hcnt) (As := [.int (nI t), .int 0]) (rest := []) rfl rfl ml_X9_149 im_X9_robotWith se_X9_robotWith ini_X9 cd_X9_robotWith ⟨rfl, na_X9_robotWith⟩ mB_blind (mr_recv hK hM) (mr_B hK hM) hl.1 (Nat.le_of_ble_eq_true rfl) ⟨Nat.le_of_ble_eq_true rfl, Nat.le_of_ble_eq_true rfl⟩ ⟨Nat.le_refl _, Nat.le_refl _⟩ rfl dX9_trayFor_47) ?_
              rcases ho14 : rwA M (nI t) false with _ | k14
              · refine top_i (y := -1) rfl ?_
                refine lv_iconst (v := (-1)) hx hb dX9_trayFor_50 (by decide) ?_
                refine lv_icmp_ne (tgt := 69) hx hb dX9_trayFor_51 (by decide) (fun c => absurd c (by decide)) (fun _ => ?_)
                refine lv_aload_n hx hb dX9_trayFor_54 rfl (lv_at hl 3 rfl) ?_
                refine lv_iload hx hb dX9_trayFor_55 (lv_at hl 0 rfl) ?_
                refine lv_iconst (v := 1) hx hb dX9_trayFor_57 (by decide) ?_
                refine cl_p (run_V hC (c9_robotWith l G ma M none (nI t) true hcnt) (As := [.int (nI t), .int 1]) (rest := []) rfl rfl ml_X9_149 im_X9_robotWith se_X9_robotWith ini_X9 cd_X9_robotWith ⟨rfl, na_X9_robotWith⟩ mB_blind (mr_recv hK hM) (mr_B hK hM) hl.1 (Nat.le_of_ble_eq_true rfl) ⟨Nat.le_of_ble_eq_true rfl, Nat.le_of_ble_eq_true rfl⟩ ⟨Nat.le_refl _, Nat.le_refl _⟩ rfl dX9_trayFor_58) ?_
                rcases ho16 : rwA M (nI t) true with _ | k16
                · refine top_i (y := -1) rfl ?_
                  refine lv_iconst (v := (-1)) hx hb dX9_trayFor_61 (by decide) ?_
                  refine lv_icmp_ne (tgt := 69) hx hb dX9_trayFor_62 (by decide) (fun c => absurd c (by decide)) (fun _ => ?_)
                  refine lv_iconst (v := 1) hx hb dX9_trayFor_65 (by decide) ?_
                  refine lv_goto (tgt := 70) hx hb dX9_trayFor_66 (by decide) ?_
                  refine lv_istore (lv' := [(6, .int 1), (5, .int (nI t)), (4, .int (nI 0)), (3, .int (-1)), (0, .ref (ma 0)), (1, .int (nI sn)), (2, .int (nI k))]) hx hb dX9_trayFor_70 hl (by decide) rfl (fun ls hl => ?_)
                  refine lv_iload hx hb dX9_trayFor_72 (lv_at hl 0 rfl) ?_
                  refine lv_if_eq (tgt := 97) hx hb dX9_trayFor_74 (by decide) (fun c => absurd c (by decide)) (fun _ => ?_)
                  obtain ⟨jh, hjh64, hjh⟩ := hH t (by omega)
                  have hxh := ix_nI (n := jh) (by omega)
                  refine lv_aload_n hx hb dX9_trayFor_77 rfl (lv_at hl 4 rfl) ?_
                  refine lv_aload_n hx hb dX9_trayFor_78 rfl (lv_at hl 4 rfl) ?_
                  refine ms_get hC hK hM 5 (by decide) fl_X9_16 rfl (v := .ref (ma 5)) rfl (fun q => rfl) dX9_trayFor_79 ?_
                  refine lv_iload_n hx hb dX9_trayFor_82 rfl (lv_at hl 5 rfl) ?_
                  refine ms_ild hC hK hM 5 (i := sn) (show sn < 3 from by omega) (by decide) rfl rfl (v := nI js) hjs dX9_trayFor_83 ?_
                  refine lv_aload_n hx hb dX9_trayFor_84 rfl (lv_at hl 4 rfl) ?_
                  refine ms_get hC hK hM 7 (by decide) fl_X9_20 rfl (v := .ref (ma 7)) rfl (fun q => rfl) dX9_trayFor_85 ?_
                  refine lv_iload hx hb dX9_trayFor_88 (lv_at hl 1 rfl) ?_
                  refine ms_ild hC hK hM 7 (i := t) (show t < 16 from by omega) (by decide) rfl rfl (v := nI jh) hjh dX9_trayFor_90 ?_
                  refine mcl_i (run_V hC (c9_distanceOf l G ma M none js jh hI hcnt (by omega) (by omega)) (As := [.int (nI js), .int (nI jh)]) (rest := []) rfl rfl ml_X9_143 im_X9_distanceOf se_X9_distanceOf ini_X9 cd_X9_distanceOf ⟨rfl, na_X9_distanceOf⟩ mB_blind (mr_recv hK hM) (mr_B hK hM) hl.1 (Nat.le_of_ble_eq_true rfl) ⟨Nat.le_of_ble_eq_true rfl, Nat.le_of_ble_eq_true rfl⟩ ⟨Nat.le_refl _, Nat.le_refl _⟩ rfl dX9_trayFor_91) hS (fun _ h => h) (fun r19 M19 H locs hp19 hM hS => ?_)
                  obtain ⟨hr19, hm19⟩ := hp19
                  rw [hm19] at hM
                  refine top_i (y := oI (dGM M js jh)) hr19 ?_
                  rcases hd20 : dGM M js jh with _ | n20
                  · refine top_i (y := -1) rfl ?_
                    refine lv_goto (tgt := 98) hx hb dX9_trayFor_94 (by decide) ?_
                    refine lv_istore (lv' := [(7, .int (-1)), (6, .int 1), (5, .int (nI t)), (4, .int (nI 0)), (3, .int (-1)), (0, .ref (ma 0)), (1, .int (nI sn)), (2, .int (nI k))]) hx hb dX9_trayFor_98 hl (by decide) rfl (fun ls hl => ?_)
                    refine lv_iload hx hb dX9_trayFor_100 (lv_at hl 0 rfl) ?_
                    refine lv_iconst (v := (-1)) hx hb dX9_trayFor_102 (by decide) ?_
                    refine lv_icmp_eq (tgt := 122) hx hb dX9_trayFor_103 (by decide) (fun _ => ?_) (fun c => absurd c (by decide))
                    refine lv_iconst (v := 0) hx hb dX9_trayFor_122 (by decide) ?_
                    refine lv_istore (lv' := [(8, .int 0), (7, .int (-1)), (6, .int 1), (5, .int (nI t)), (4, .int (nI 0)), (3, .int (-1)), (0, .ref (ma 0)), (1, .int (nI sn)), (2, .int (nI k))]) hx hb dX9_trayFor_123 hl (by decide) rfl (fun ls hl => ?_)
                    refine lv_iload hx hb dX9_trayFor_125 (lv_at hl 0 rfl) ?_
                    refine lv_if_eq (tgt := 135) hx hb dX9_trayFor_127 (by decide) (fun _ => ?_) (fun c => absurd c (by decide))
                    refine lv_iload_n hx hb dX9_trayFor_135 rfl (lv_at hl 5 rfl) ?_
                    refine lv_istore_n (lv' := [(3, .int (-1)), (8, .int 0), (7, .int (-1)), (6, .int 1), (5, .int (nI t)), (4, .int (nI 0)), (0, .ref (ma 0)), (1, .int (nI sn)), (2, .int (nI k))]) hx hb dX9_trayFor_136 rfl hl (by decide) rfl (fun ls hl => ?_)
                    refine lv_iload hx hb dX9_trayFor_137 (lv_at hl 1 rfl) ?_
                    refine lv_if_eq (tgt := 147) hx hb dX9_trayFor_139 (by decide) (fun _ => ?_) (fun c => absurd c (by decide))
                    refine lv_iload hx hb dX9_trayFor_147 (lv_at hl 5 rfl) ?_
                    refine lv_istore (lv' := [(4, .int (nI 0)), (3, .int (-1)), (8, .int 0), (7, .int (-1)), (6, .int 1), (5, .int (nI t)), (0, .ref (ma 0)), (1, .int (nI sn)), (2, .int (nI k))]) hx hb dX9_trayFor_149 hl (by decide) rfl (fun ls hl => ?_)
                    refine lv_iinc (v := nI (t + 1)) (lv' := [(5, .int (nI (t + 1))), (4, .int (nI 0)), (3, .int (-1)), (8, .int 0), (7, .int (-1)), (6, .int 1), (0, .ref (ma 0)), (1, .int (nI sn)), (2, .int (nI k))]) hx hb dX9_trayFor_151 hl (k := 5) rfl (nI_inc _) (by decide) rfl (fun ls hl => ?_)
                    refine lv_goto (tgt := 8) hx hb dX9_trayFor_154 (by decide) ?_
                    exact ih1 (t + 1) none H locs ls (by omega) (hq3.symm.trans (hbb.trans (bst_skip (by simp [tfF, canT, hjs, hxs, c_2f, c_4f, c_9f, ho14, ho16, hjh, hxh, hd20])).symm)) (fun p hp => by cases hp) hM hS (by omega) (lv_sub hl [0, 1, 2, 6, 7, 8] rfl)
                  · refine top_i (y := nI n20) rfl ?_
                    have hn64 := dGM_64 (by omega) (by omega) hd20
                    refine lv_goto (tgt := 98) hx hb dX9_trayFor_94 (by decide) ?_
                    refine lv_istore (lv' := [(7, .int (nI n20)), (6, .int 1), (5, .int (nI t)), (4, .int (nI 0)), (3, .int (-1)), (0, .ref (ma 0)), (1, .int (nI sn)), (2, .int (nI k))]) hx hb dX9_trayFor_98 hl (by decide) rfl (fun ls hl => ?_)
                    refine lv_iload hx hb dX9_trayFor_100 (lv_at hl 0 rfl) ?_
                    refine lv_iconst (v := (-1)) hx hb dX9_trayFor_102 (by decide) ?_
                    refine lv_icmp_eq (tgt := 122) hx hb dX9_trayFor_103 (by decide) (fun c => absurd c (nI_m1 (by omega))) (fun _ => ?_)
                    refine lv_iload_n hx hb dX9_trayFor_106 rfl (lv_at hl 4 rfl) ?_
                    refine lv_iconst (v := (-1)) hx hb dX9_trayFor_107 (by decide) ?_
                    refine lv_icmp_eq (tgt := 118) hx hb dX9_trayFor_108 (by decide) (fun _ => ?_) (fun c => absurd c (by decide))
                    refine lv_iconst (v := 1) hx hb dX9_trayFor_118 (by decide) ?_
                    refine lv_goto (tgt := 123) hx hb dX9_trayFor_119 (by decide) ?_
                    refine lv_istore (lv' := [(8, .int 1), (7, .int (nI n20)), (6, .int 1), (5, .int (nI t)), (4, .int (nI 0)), (3, .int (-1)), (0, .ref (ma 0)), (1, .int (nI sn)), (2, .int (nI k))]) hx hb dX9_trayFor_123 hl (by decide) rfl (fun ls hl => ?_)
                    refine lv_iload hx hb dX9_trayFor_125 (lv_at hl 0 rfl) ?_
                    refine lv_if_eq (tgt := 135) hx hb dX9_trayFor_127 (by decide) (fun c => absurd c (by decide)) (fun _ => ?_)
                    refine lv_iload hx hb dX9_trayFor_130 (lv_at hl 3 rfl) ?_
                    refine lv_goto (tgt := 136) hx hb dX9_trayFor_132 (by decide) ?_
                    refine lv_istore_n (lv' := [(3, .int (nI t)), (8, .int 1), (7, .int (nI n20)), (6, .int 1), (5, .int (nI t)), (4, .int (nI 0)), (0, .ref (ma 0)), (1, .int (nI sn)), (2, .int (nI k))]) hx hb dX9_trayFor_136 rfl hl (by decide) rfl (fun ls hl => ?_)
                    refine lv_iload hx hb dX9_trayFor_137 (lv_at hl 1 rfl) ?_
                    refine lv_if_eq (tgt := 147) hx hb dX9_trayFor_139 (by decide) (fun c => absurd c (by decide)) (fun _ => ?_)
                    refine lv_iload hx hb dX9_trayFor_142 (lv_at hl 2 rfl) ?_
                    refine lv_goto (tgt := 149) hx hb dX9_trayFor_144 (by decide) ?_
                    refine lv_istore (lv' := [(4, .int (nI n20)), (3, .int (nI t)), (8, .int 1), (7, .int (nI n20)), (6, .int 1), (5, .int (nI t)), (0, .ref (ma 0)), (1, .int (nI sn)), (2, .int (nI k))]) hx hb dX9_trayFor_149 hl (by decide) rfl (fun ls hl => ?_)
                    refine lv_iinc (v := nI (t + 1)) (lv' := [(5, .int (nI (t + 1))), (4, .int (nI n20)), (3, .int (nI t)), (8, .int 1), (7, .int (nI n20)), (6, .int 1), (0, .ref (ma 0)), (1, .int (nI sn)), (2, .int (nI k))]) hx hb dX9_trayFor_151 hl (k := 5) rfl (nI_inc _) (by decide) rfl (fun ls hl => ?_)
                    refine lv_goto (tgt := 8) hx hb dX9_trayFor_154 (by decide) ?_
                    exact ih1 (t + 1) (some (t, n20)) H locs ls (by omega) ((bst_new (by simp [tfF, canT, hjs, hxs, c_2f, c_4f, c_9f, ho14, ho16, hjh, hxh, hd20]) (hbb.symm.trans hq3)).symm) (fun p hp => by cases hp; exact ⟨by omega, by omega⟩) hM hS (by omega) (lv_sub hl [0, 1, 2, 6, 7, 8] rfl)
                · refine top_i (y := nI k16) rfl ?_
                  have hlt_k16 := (lastP_lt ho16).1
                  refine lv_iconst (v := (-1)) hx hb dX9_trayFor_61 (by decide) ?_
                  refine lv_icmp_ne (tgt := 69) hx hb dX9_trayFor_62 (by decide) (fun _ => ?_) (fun c => absurd c (nI_m1 (by omega)))
                  refine lv_iconst (v := 0) hx hb dX9_trayFor_69 (by decide) ?_
                  refine lv_istore (lv' := [(6, .int 0), (5, .int (nI t)), (4, .int (nI 0)), (3, .int (-1)), (0, .ref (ma 0)), (1, .int (nI sn)), (2, .int (nI k))]) hx hb dX9_trayFor_70 hl (by decide) rfl (fun ls hl => ?_)
                  refine lv_iload hx hb dX9_trayFor_72 (lv_at hl 0 rfl) ?_
                  refine lv_if_eq (tgt := 97) hx hb dX9_trayFor_74 (by decide) (fun _ => ?_) (fun c => absurd c (by decide))
                  refine lv_iconst (v := (-1)) hx hb dX9_trayFor_97 (by decide) ?_
                  refine lv_istore (lv' := [(7, .int (-1)), (6, .int 0), (5, .int (nI t)), (4, .int (nI 0)), (3, .int (-1)), (0, .ref (ma 0)), (1, .int (nI sn)), (2, .int (nI k))]) hx hb dX9_trayFor_98 hl (by decide) rfl (fun ls hl => ?_)
                  refine lv_iload hx hb dX9_trayFor_100 (lv_at hl 0 rfl) ?_
                  refine lv_iconst (v := (-1)) hx hb dX9_trayFor_102 (by decide) ?_
                  refine lv_icmp_eq (tgt := 122) hx hb dX9_trayFor_103 (by decide) (fun _ => ?_) (fun c => absurd c (by decide))
                  refine lv_iconst (v := 0) hx hb dX9_trayFor_122 (by decide) ?_
                  refine lv_istore (lv' := [(8, .int 0), (7, .int (-1)), (6, .int 0), (5, .int (nI t)), (4, .int (nI 0)), (3, .int (-1)), (0, .ref (ma 0)), (1, .int (nI sn)), (2, .int (nI k))]) hx hb dX9_trayFor_123 hl (by decide) rfl (fun ls hl => ?_)
                  refine lv_iload hx hb dX9_trayFor_125 (lv_at hl 0 rfl) ?_
                  refine lv_if_eq (tgt := 135) hx hb dX9_trayFor_127 (by decide) (fun _ => ?_) (fun c => absurd c (by decide))
                  refine lv_iload_n hx hb dX9_trayFor_135 rfl (lv_at hl 5 rfl) ?_
                  refine lv_istore_n (lv' := [(3, .int (-1)), (8, .int 0), (7, .int (-1)), (6, .int 0), (5, .int (nI t)), (4, .int (nI 0)), (0, .ref (ma 0)), (1, .int (nI sn)), (2, .int (nI k))]) hx hb dX9_trayFor_136 rfl hl (by decide) rfl (fun ls hl => ?_)
                  refine lv_iload hx hb dX9_trayFor_137 (lv_at hl 1 rfl) ?_
                  refine lv_if_eq (tgt := 147) hx hb dX9_trayFor_139 (by decide) (fun _ => ?_) (fun c => absurd c (by decide))
                  refine lv_iload hx hb dX9_trayFor_147 (lv_at hl 5 rfl) ?_
                  refine lv_istore (lv' := [(4, .int (nI 0)), (3, .int (-1)), (8, .int 0), (7, .int (-1)), (6, .int 0), (5, .int (nI t)), (0, .ref (ma 0)), (1, .int (nI sn)), (2, .int (nI k))]) hx hb dX9_trayFor_149 hl (by decide) rfl (fun ls hl => ?_)
                  refine lv_iinc (v := nI (t + 1)) (lv' := [(5, .int (nI (t + 1))), (4, .int (nI 0)), (3, .int (-1)), (8, .int 0), (7, .int (-1)), (6, .int 0), (0, .ref (ma 0)), (1, .int (nI sn)), (2, .int (nI k))]) hx hb dX9_trayFor_151 hl (k := 5) rfl (nI_inc _) (by decide) rfl (fun ls hl => ?_)
                  refine lv_goto (tgt := 8) hx hb dX9_trayFor_154 (by decide) ?_
                  exact ih1 (t + 1) none H locs ls (by omega) (hq3.symm.trans (hbb.trans (bst_skip (by simp [tfF, canT, hjs, hxs, c_2f, c_4f, c_9f, ho14, ho16])).symm)) (fun p hp => by cases hp) hM hS (by omega) (lv_sub hl [0, 1, 2, 6, 7, 8] rfl)
              · refine top_i (y := nI k14) rfl ?_
                have hlt_k14 := (lastP_lt ho14).1
                refine lv_iconst (v := (-1)) hx hb dX9_trayFor_50 (by decide) ?_
                refine lv_icmp_ne (tgt := 69) hx hb dX9_trayFor_51 (by decide) (fun _ => ?_) (fun c => absurd c (nI_m1 (by omega)))
                refine lv_iconst (v := 0) hx hb dX9_trayFor_69 (by decide) ?_
                refine lv_istore (lv' := [(6, .int 0), (5, .int (nI t)), (4, .int (nI 0)), (3, .int (-1)), (0, .ref (ma 0)), (1, .int (nI sn)), (2, .int (nI k))]) hx hb dX9_trayFor_70 hl (by decide) rfl (fun ls hl => ?_)
                refine lv_iload hx hb dX9_trayFor_72 (lv_at hl 0 rfl) ?_
                refine lv_if_eq (tgt := 97) hx hb dX9_trayFor_74 (by decide) (fun _ => ?_) (fun c => absurd c (by decide))
                refine lv_iconst (v := (-1)) hx hb dX9_trayFor_97 (by decide) ?_
                refine lv_istore (lv' := [(7, .int (-1)), (6, .int 0), (5, .int (nI t)), (4, .int (nI 0)), (3, .int (-1)), (0, .ref (ma 0)), (1, .int (nI sn)), (2, .int (nI k))]) hx hb dX9_trayFor_98 hl (by decide) rfl (fun ls hl => ?_)
                refine lv_iload hx hb dX9_trayFor_100 (lv_at hl 0 rfl) ?_
                refine lv_iconst (v := (-1)) hx hb dX9_trayFor_102 (by decide) ?_
                refine lv_icmp_eq (tgt := 122) hx hb dX9_trayFor_103 (by decide) (fun _ => ?_) (fun c => absurd c (by decide))
                refine lv_iconst (v := 0) hx hb dX9_trayFor_122 (by decide) ?_
                refine lv_istore (lv' := [(8, .int 0), (7, .int (-1)), (6, .int 0), (5, .int (nI t)), (4, .int (nI 0)), (3, .int (-1)), (0, .ref (ma 0)), (1, .int (nI sn)), (2, .int (nI k))]) hx hb dX9_trayFor_123 hl (by decide) rfl (fun ls hl => ?_)
                refine lv_iload hx hb dX9_trayFor_125 (lv_at hl 0 rfl) ?_
                refine lv_if_eq (tgt := 135) hx hb dX9_trayFor_127 (by decide) (fun _ => ?_) (fun c => absurd c (by decide))
                refine lv_iload_n hx hb dX9_trayFor_135 rfl (lv_at hl 5 rfl) ?_
                refine lv_istore_n (lv' := [(3, .int (-1)), (8, .int 0), (7, .int (-1)), (6, .int 0), (5, .int (nI t)), (4, .int (nI 0)), (0, .ref (ma 0)), (1, .int (nI sn)), (2, .int (nI k))]) hx hb dX9_trayFor_136 rfl hl (by decide) rfl (fun ls hl => ?_)
                refine lv_iload hx hb dX9_trayFor_137 (lv_at hl 1 rfl) ?_
                refine lv_if_eq (tgt := 147) hx hb dX9_trayFor_139 (by decide) (fun _ => ?_) (fun c => absurd c (by decide))
                refine lv_iload hx hb dX9_trayFor_147 (lv_at hl 5 rfl) ?_
                refine lv_istore (lv' := [(4, .int (nI 0)), (3, .int (-1)), (8, .int 0), (7, .int (-1)), (6, .int 0), (5, .int (nI t)), (0, .ref (ma 0)), (1, .int (nI sn)), (2, .int (nI k))]) hx hb dX9_trayFor_149 hl (by decide) rfl (fun ls hl => ?_)
                refine lv_iinc (v := nI (t + 1)) (lv' := [(5, .int (nI (t + 1))), (4, .int (nI 0)), (3, .int (-1)), (8, .int 0), (7, .int (-1)), (6, .int 0), (0, .ref (ma 0)), (1, .int (nI sn)), (2, .int (nI k))]) hx hb dX9_trayFor_151 hl (k := 5) rfl (nI_inc _) (by decide) rfl (fun ls hl => ?_)
                refine lv_goto (tgt := 8) hx hb dX9_trayFor_154 (by decide) ?_
                exact ih1 (t + 1) none H locs ls (by omega) (hq3.symm.trans (hbb.trans (bst_skip (by simp [tfF, canT, hjs, hxs, c_2f, c_4f, c_9f, ho14])).symm)) (fun p hp => by cases hp) hM hS (by omega) (lv_sub hl [0, 1, 2, 6, 7, 8] rfl)
        · have hl : lv_has ls 9 [(5, .int (nI t)), (4, .int (nI p3.2)), (3, .int (nI p3.1)), (0, .ref (ma 0)), (1, .int (nI sn)), (2, .int (nI k))] := by rw [hq3] at hl; exact hl
          have hp64 := hb64 _ hq3
          refine lv_aload_n hx hb dX9_trayFor_17 rfl (lv_at hl 3 rfl) ?_
          refine ms_get hC hK hM 8 (by decide) fl_X9_23 rfl (v := .ref (ma 8)) rfl (fun q => rfl) dX9_trayFor_18 ?_
          refine lv_iload hx hb dX9_trayFor_21 (lv_at hl 0 rfl) ?_
          refine ms_ild hC hK hM 8 (i := t) (show t < 16 from by omega) (by decide) rfl rfl (v := M 8 t) rfl dX9_trayFor_23 ?_
          refine lv_aload_n hx hb dX9_trayFor_24 rfl (lv_at hl 3 rfl) ?_
          refine ms_get hC hK hM 12 (by decide) fl_X9_32 rfl (v := .ref (ma 12)) rfl (fun q => rfl) dX9_trayFor_25 ?_
          refine lv_iload_n hx hb dX9_trayFor_28 rfl (lv_at hl 5 rfl) ?_
          refine ms_ild hC hK hM 12 (i := k) (show k < 30 from by omega) (by decide) rfl rfl (v := M 12 k) rfl dX9_trayFor_29 ?_
          refine lv_icmp_ne (tgt := 69) hx hb dX9_trayFor_30 (by decide) (fun c_38t => ?_) (fun c_38f => ?_)
          · refine lv_iconst (v := 0) hx hb dX9_trayFor_69 (by decide) ?_
            refine lv_istore (lv' := [(6, .int 0), (5, .int (nI t)), (4, .int (nI p3.2)), (3, .int (nI p3.1)), (0, .ref (ma 0)), (1, .int (nI sn)), (2, .int (nI k))]) hx hb dX9_trayFor_70 hl (by decide) rfl (fun ls hl => ?_)
            refine lv_iload hx hb dX9_trayFor_72 (lv_at hl 0 rfl) ?_
            refine lv_if_eq (tgt := 97) hx hb dX9_trayFor_74 (by decide) (fun _ => ?_) (fun c => absurd c (by decide))
            refine lv_iconst (v := (-1)) hx hb dX9_trayFor_97 (by decide) ?_
            refine lv_istore (lv' := [(7, .int (-1)), (6, .int 0), (5, .int (nI t)), (4, .int (nI p3.2)), (3, .int (nI p3.1)), (0, .ref (ma 0)), (1, .int (nI sn)), (2, .int (nI k))]) hx hb dX9_trayFor_98 hl (by decide) rfl (fun ls hl => ?_)
            refine lv_iload hx hb dX9_trayFor_100 (lv_at hl 0 rfl) ?_
            refine lv_iconst (v := (-1)) hx hb dX9_trayFor_102 (by decide) ?_
            refine lv_icmp_eq (tgt := 122) hx hb dX9_trayFor_103 (by decide) (fun _ => ?_) (fun c => absurd c (by decide))
            refine lv_iconst (v := 0) hx hb dX9_trayFor_122 (by decide) ?_
            refine lv_istore (lv' := [(8, .int 0), (7, .int (-1)), (6, .int 0), (5, .int (nI t)), (4, .int (nI p3.2)), (3, .int (nI p3.1)), (0, .ref (ma 0)), (1, .int (nI sn)), (2, .int (nI k))]) hx hb dX9_trayFor_123 hl (by decide) rfl (fun ls hl => ?_)
            refine lv_iload hx hb dX9_trayFor_125 (lv_at hl 0 rfl) ?_
            refine lv_if_eq (tgt := 135) hx hb dX9_trayFor_127 (by decide) (fun _ => ?_) (fun c => absurd c (by decide))
            refine lv_iload_n hx hb dX9_trayFor_135 rfl (lv_at hl 5 rfl) ?_
            refine lv_istore_n (lv' := [(3, .int (nI p3.1)), (8, .int 0), (7, .int (-1)), (6, .int 0), (5, .int (nI t)), (4, .int (nI p3.2)), (0, .ref (ma 0)), (1, .int (nI sn)), (2, .int (nI k))]) hx hb dX9_trayFor_136 rfl hl (by decide) rfl (fun ls hl => ?_)
            refine lv_iload hx hb dX9_trayFor_137 (lv_at hl 1 rfl) ?_
            refine lv_if_eq (tgt := 147) hx hb dX9_trayFor_139 (by decide) (fun _ => ?_) (fun c => absurd c (by decide))
            refine lv_iload hx hb dX9_trayFor_147 (lv_at hl 5 rfl) ?_
            refine lv_istore (lv' := [(4, .int (nI p3.2)), (3, .int (nI p3.1)), (8, .int 0), (7, .int (-1)), (6, .int 0), (5, .int (nI t)), (0, .ref (ma 0)), (1, .int (nI sn)), (2, .int (nI k))]) hx hb dX9_trayFor_149 hl (by decide) rfl (fun ls hl => ?_)
            refine lv_iinc (v := nI (t + 1)) (lv' := [(5, .int (nI (t + 1))), (4, .int (nI p3.2)), (3, .int (nI p3.1)), (8, .int 0), (7, .int (-1)), (6, .int 0), (0, .ref (ma 0)), (1, .int (nI sn)), (2, .int (nI k))]) hx hb dX9_trayFor_151 hl (k := 5) rfl (nI_inc _) (by decide) rfl (fun ls hl => ?_)
            refine lv_goto (tgt := 8) hx hb dX9_trayFor_154 (by decide) ?_
            exact ih1 (t + 1) (some p3) H locs ls (by omega) (hq3.symm.trans (hbb.trans (bst_skip (by simp [tfF, canT, hjs, hxs, c_2f, c_38t])).symm)) (fun p hp => by cases hp; have := hb64 _ hq3; exact ⟨by omega, by omega⟩) hM hS (by omega) (lv_sub hl [0, 1, 2, 6, 7, 8] rfl)
          · refine lv_aload_n hx hb dX9_trayFor_33 rfl (lv_at hl 3 rfl) ?_
            refine ms_get hC hK hM 9 (by decide) fl_X9_26 rfl (v := .ref (ma 9)) rfl (fun q => rfl) dX9_trayFor_34 ?_
            refine lv_iload hx hb dX9_trayFor_37 (lv_at hl 0 rfl) ?_
            refine ms_ild hC hK hM 9 (i := t) (show t < 16 from by omega) (by decide) rfl rfl (v := M 9 t) rfl dX9_trayFor_39 ?_
            refine lv_if_le (tgt := 69) hx hb dX9_trayFor_40 (by decide) (fun c_43t => ?_) (fun c_43f => ?_)
            · refine lv_iconst (v := 0) hx hb dX9_trayFor_69 (by decide) ?_
              refine lv_istore (lv' := [(6, .int 0), (5, .int (nI t)), (4, .int (nI p3.2)), (3, .int (nI p3.1)), (0, .ref (ma 0)), (1, .int (nI sn)), (2, .int (nI k))]) hx hb dX9_trayFor_70 hl (by decide) rfl (fun ls hl => ?_)
              refine lv_iload hx hb dX9_trayFor_72 (lv_at hl 0 rfl) ?_
              refine lv_if_eq (tgt := 97) hx hb dX9_trayFor_74 (by decide) (fun _ => ?_) (fun c => absurd c (by decide))
              refine lv_iconst (v := (-1)) hx hb dX9_trayFor_97 (by decide) ?_
              refine lv_istore (lv' := [(7, .int (-1)), (6, .int 0), (5, .int (nI t)), (4, .int (nI p3.2)), (3, .int (nI p3.1)), (0, .ref (ma 0)), (1, .int (nI sn)), (2, .int (nI k))]) hx hb dX9_trayFor_98 hl (by decide) rfl (fun ls hl => ?_)
              refine lv_iload hx hb dX9_trayFor_100 (lv_at hl 0 rfl) ?_
              refine lv_iconst (v := (-1)) hx hb dX9_trayFor_102 (by decide) ?_
              refine lv_icmp_eq (tgt := 122) hx hb dX9_trayFor_103 (by decide) (fun _ => ?_) (fun c => absurd c (by decide))
              refine lv_iconst (v := 0) hx hb dX9_trayFor_122 (by decide) ?_
              refine lv_istore (lv' := [(8, .int 0), (7, .int (-1)), (6, .int 0), (5, .int (nI t)), (4, .int (nI p3.2)), (3, .int (nI p3.1)), (0, .ref (ma 0)), (1, .int (nI sn)), (2, .int (nI k))]) hx hb dX9_trayFor_123 hl (by decide) rfl (fun ls hl => ?_)
              refine lv_iload hx hb dX9_trayFor_125 (lv_at hl 0 rfl) ?_
              refine lv_if_eq (tgt := 135) hx hb dX9_trayFor_127 (by decide) (fun _ => ?_) (fun c => absurd c (by decide))
              refine lv_iload_n hx hb dX9_trayFor_135 rfl (lv_at hl 5 rfl) ?_
              refine lv_istore_n (lv' := [(3, .int (nI p3.1)), (8, .int 0), (7, .int (-1)), (6, .int 0), (5, .int (nI t)), (4, .int (nI p3.2)), (0, .ref (ma 0)), (1, .int (nI sn)), (2, .int (nI k))]) hx hb dX9_trayFor_136 rfl hl (by decide) rfl (fun ls hl => ?_)
              refine lv_iload hx hb dX9_trayFor_137 (lv_at hl 1 rfl) ?_
              refine lv_if_eq (tgt := 147) hx hb dX9_trayFor_139 (by decide) (fun _ => ?_) (fun c => absurd c (by decide))
              refine lv_iload hx hb dX9_trayFor_147 (lv_at hl 5 rfl) ?_
              refine lv_istore (lv' := [(4, .int (nI p3.2)), (3, .int (nI p3.1)), (8, .int 0), (7, .int (-1)), (6, .int 0), (5, .int (nI t)), (0, .ref (ma 0)), (1, .int (nI sn)), (2, .int (nI k))]) hx hb dX9_trayFor_149 hl (by decide) rfl (fun ls hl => ?_)
              refine lv_iinc (v := nI (t + 1)) (lv' := [(5, .int (nI (t + 1))), (4, .int (nI p3.2)), (3, .int (nI p3.1)), (8, .int 0), (7, .int (-1)), (6, .int 0), (0, .ref (ma 0)), (1, .int (nI sn)), (2, .int (nI k))]) hx hb dX9_trayFor_151 hl (k := 5) rfl (nI_inc _) (by decide) rfl (fun ls hl => ?_)
              refine lv_goto (tgt := 8) hx hb dX9_trayFor_154 (by decide) ?_
              exact ih1 (t + 1) (some p3) H locs ls (by omega) (hq3.symm.trans (hbb.trans (bst_skip (by simp [tfF, canT, hjs, hxs, c_2f, c_38f, c_43t])).symm)) (fun p hp => by cases hp; have := hb64 _ hq3; exact ⟨by omega, by omega⟩) hM hS (by omega) (lv_sub hl [0, 1, 2, 6, 7, 8] rfl)
            · refine lv_aload_n hx hb dX9_trayFor_43 rfl (lv_at hl 3 rfl) ?_
              refine lv_iload hx hb dX9_trayFor_44 (lv_at hl 0 rfl) ?_
              refine lv_iconst (v := 0) hx hb dX9_trayFor_46 (by decide) ?_
              refine cl_p (run_V hC (c9_robotWith l G ma M none (nI t) false hcnt) (As := [.int (nI t), .int 0]) (rest := []) rfl rfl ml_X9_149 im_X9_robotWith se_X9_robotWith ini_X9 cd_X9_robotWith ⟨rfl, na_X9_robotWith⟩ mB_blind (mr_recv hK hM) (mr_B hK hM) hl.1 (Nat.le_of_ble_eq_true rfl) ⟨Nat.le_of_ble_eq_true rfl, Nat.le_of_ble_eq_true rfl⟩ ⟨Nat.le_refl _, Nat.le_refl _⟩ rfl dX9_trayFor_47) ?_
              rcases ho48 : rwA M (nI t) false with _ | k48
              · refine top_i (y := -1) rfl ?_
                refine lv_iconst (v := (-1)) hx hb dX9_trayFor_50 (by decide) ?_
                refine lv_icmp_ne (tgt := 69) hx hb dX9_trayFor_51 (by decide) (fun c => absurd c (by decide)) (fun _ => ?_)
                refine lv_aload_n hx hb dX9_trayFor_54 rfl (lv_at hl 3 rfl) ?_
                refine lv_iload hx hb dX9_trayFor_55 (lv_at hl 0 rfl) ?_
                refine lv_iconst (v := 1) hx hb dX9_trayFor_57 (by decide) ?_
                refine cl_p (run_V hC (c9_robotWith l G ma M none (nI t) true hcnt) (As := [.int (nI t), .int 1]) (rest := []) rfl rfl ml_X9_149 im_X9_robotWith se_X9_robotWith ini_X9 cd_X9_robotWith ⟨rfl, na_X9_robotWith⟩ mB_blind (mr_recv hK hM) (mr_B hK hM) hl.1 (Nat.le_of_ble_eq_true rfl) ⟨Nat.le_of_ble_eq_true rfl, Nat.le_of_ble_eq_true rfl⟩ ⟨Nat.le_refl _, Nat.le_refl _⟩ rfl dX9_trayFor_58) ?_
                rcases ho50 : rwA M (nI t) true with _ | k50
                · refine top_i (y := -1) rfl ?_
                  refine lv_iconst (v := (-1)) hx hb dX9_trayFor_61 (by decide) ?_
                  refine lv_icmp_ne (tgt := 69) hx hb dX9_trayFor_62 (by decide) (fun c => absurd c (by decide)) (fun _ => ?_)
                  refine lv_iconst (v := 1) hx hb dX9_trayFor_65 (by decide) ?_
                  refine lv_goto (tgt := 70) hx hb dX9_trayFor_66 (by decide) ?_
                  refine lv_istore (lv' := [(6, .int 1), (5, .int (nI t)), (4, .int (nI p3.2)), (3, .int (nI p3.1)), (0, .ref (ma 0)), (1, .int (nI sn)), (2, .int (nI k))]) hx hb dX9_trayFor_70 hl (by decide) rfl (fun ls hl => ?_)
                  refine lv_iload hx hb dX9_trayFor_72 (lv_at hl 0 rfl) ?_
                  refine lv_if_eq (tgt := 97) hx hb dX9_trayFor_74 (by decide) (fun c => absurd c (by decide)) (fun _ => ?_)
                  obtain ⟨jh, hjh64, hjh⟩ := hH t (by omega)
                  have hxh := ix_nI (n := jh) (by omega)
                  refine lv_aload_n hx hb dX9_trayFor_77 rfl (lv_at hl 4 rfl) ?_
                  refine lv_aload_n hx hb dX9_trayFor_78 rfl (lv_at hl 4 rfl) ?_
                  refine ms_get hC hK hM 5 (by decide) fl_X9_16 rfl (v := .ref (ma 5)) rfl (fun q => rfl) dX9_trayFor_79 ?_
                  refine lv_iload_n hx hb dX9_trayFor_82 rfl (lv_at hl 5 rfl) ?_
                  refine ms_ild hC hK hM 5 (i := sn) (show sn < 3 from by omega) (by decide) rfl rfl (v := nI js) hjs dX9_trayFor_83 ?_
                  refine lv_aload_n hx hb dX9_trayFor_84 rfl (lv_at hl 4 rfl) ?_
                  refine ms_get hC hK hM 7 (by decide) fl_X9_20 rfl (v := .ref (ma 7)) rfl (fun q => rfl) dX9_trayFor_85 ?_
                  refine lv_iload hx hb dX9_trayFor_88 (lv_at hl 1 rfl) ?_
                  refine ms_ild hC hK hM 7 (i := t) (show t < 16 from by omega) (by decide) rfl rfl (v := nI jh) hjh dX9_trayFor_90 ?_
                  refine mcl_i (run_V hC (c9_distanceOf l G ma M none js jh hI hcnt (by omega) (by omega)) (As := [.int (nI js), .int (nI jh)]) (rest := []) rfl rfl ml_X9_143 im_X9_distanceOf se_X9_distanceOf ini_X9 cd_X9_distanceOf ⟨rfl, na_X9_distanceOf⟩ mB_blind (mr_recv hK hM) (mr_B hK hM) hl.1 (Nat.le_of_ble_eq_true rfl) ⟨Nat.le_of_ble_eq_true rfl, Nat.le_of_ble_eq_true rfl⟩ ⟨Nat.le_refl _, Nat.le_refl _⟩ rfl dX9_trayFor_91) hS (fun _ h => h) (fun r53 M53 H locs hp53 hM hS => ?_)
                  obtain ⟨hr53, hm53⟩ := hp53
                  rw [hm53] at hM
                  refine top_i (y := oI (dGM M js jh)) hr53 ?_
                  rcases hd54 : dGM M js jh with _ | n54
                  · refine top_i (y := -1) rfl ?_
                    refine lv_goto (tgt := 98) hx hb dX9_trayFor_94 (by decide) ?_
                    refine lv_istore (lv' := [(7, .int (-1)), (6, .int 1), (5, .int (nI t)), (4, .int (nI p3.2)), (3, .int (nI p3.1)), (0, .ref (ma 0)), (1, .int (nI sn)), (2, .int (nI k))]) hx hb dX9_trayFor_98 hl (by decide) rfl (fun ls hl => ?_)
                    refine lv_iload hx hb dX9_trayFor_100 (lv_at hl 0 rfl) ?_
                    refine lv_iconst (v := (-1)) hx hb dX9_trayFor_102 (by decide) ?_
                    refine lv_icmp_eq (tgt := 122) hx hb dX9_trayFor_103 (by decide) (fun _ => ?_) (fun c => absurd c (by decide))
                    refine lv_iconst (v := 0) hx hb dX9_trayFor_122 (by decide) ?_
                    refine lv_istore (lv' := [(8, .int 0), (7, .int (-1)), (6, .int 1), (5, .int (nI t)), (4, .int (nI p3.2)), (3, .int (nI p3.1)), (0, .ref (ma 0)), (1, .int (nI sn)), (2, .int (nI k))]) hx hb dX9_trayFor_123 hl (by decide) rfl (fun ls hl => ?_)
                    refine lv_iload hx hb dX9_trayFor_125 (lv_at hl 0 rfl) ?_
                    refine lv_if_eq (tgt := 135) hx hb dX9_trayFor_127 (by decide) (fun _ => ?_) (fun c => absurd c (by decide))
                    refine lv_iload_n hx hb dX9_trayFor_135 rfl (lv_at hl 5 rfl) ?_
                    refine lv_istore_n (lv' := [(3, .int (nI p3.1)), (8, .int 0), (7, .int (-1)), (6, .int 1), (5, .int (nI t)), (4, .int (nI p3.2)), (0, .ref (ma 0)), (1, .int (nI sn)), (2, .int (nI k))]) hx hb dX9_trayFor_136 rfl hl (by decide) rfl (fun ls hl => ?_)
                    refine lv_iload hx hb dX9_trayFor_137 (lv_at hl 1 rfl) ?_
                    refine lv_if_eq (tgt := 147) hx hb dX9_trayFor_139 (by decide) (fun _ => ?_) (fun c => absurd c (by decide))
                    refine lv_iload hx hb dX9_trayFor_147 (lv_at hl 5 rfl) ?_
                    refine lv_istore (lv' := [(4, .int (nI p3.2)), (3, .int (nI p3.1)), (8, .int 0), (7, .int (-1)), (6, .int 1), (5, .int (nI t)), (0, .ref (ma 0)), (1, .int (nI sn)), (2, .int (nI k))]) hx hb dX9_trayFor_149 hl (by decide) rfl (fun ls hl => ?_)
                    refine lv_iinc (v := nI (t + 1)) (lv' := [(5, .int (nI (t + 1))), (4, .int (nI p3.2)), (3, .int (nI p3.1)), (8, .int 0), (7, .int (-1)), (6, .int 1), (0, .ref (ma 0)), (1, .int (nI sn)), (2, .int (nI k))]) hx hb dX9_trayFor_151 hl (k := 5) rfl (nI_inc _) (by decide) rfl (fun ls hl => ?_)
                    refine lv_goto (tgt := 8) hx hb dX9_trayFor_154 (by decide) ?_
                    exact ih1 (t + 1) (some p3) H locs ls (by omega) (hq3.symm.trans (hbb.trans (bst_skip (by simp [tfF, canT, hjs, hxs, c_2f, c_38f, c_43f, ho48, ho50, hjh, hxh, hd54])).symm)) (fun p hp => by cases hp; have := hb64 _ hq3; exact ⟨by omega, by omega⟩) hM hS (by omega) (lv_sub hl [0, 1, 2, 6, 7, 8] rfl)
                  · refine top_i (y := nI n54) rfl ?_
                    have hn64 := dGM_64 (by omega) (by omega) hd54
                    refine lv_goto (tgt := 98) hx hb dX9_trayFor_94 (by decide) ?_
                    refine lv_istore (lv' := [(7, .int (nI n54)), (6, .int 1), (5, .int (nI t)), (4, .int (nI p3.2)), (3, .int (nI p3.1)), (0, .ref (ma 0)), (1, .int (nI sn)), (2, .int (nI k))]) hx hb dX9_trayFor_98 hl (by decide) rfl (fun ls hl => ?_)
                    refine lv_iload hx hb dX9_trayFor_100 (lv_at hl 0 rfl) ?_
                    refine lv_iconst (v := (-1)) hx hb dX9_trayFor_102 (by decide) ?_
                    refine lv_icmp_eq (tgt := 122) hx hb dX9_trayFor_103 (by decide) (fun c => absurd c (nI_m1 (by omega))) (fun _ => ?_)
                    refine lv_iload_n hx hb dX9_trayFor_106 rfl (lv_at hl 4 rfl) ?_
                    refine lv_iconst (v := (-1)) hx hb dX9_trayFor_107 (by decide) ?_
                    refine lv_icmp_eq (tgt := 118) hx hb dX9_trayFor_108 (by decide) (fun c => absurd c (nI_m1 (by omega))) (fun _ => ?_)
                    refine lv_iload hx hb dX9_trayFor_111 (lv_at hl 0 rfl) ?_
                    refine lv_iload hx hb dX9_trayFor_113 (lv_at hl 3 rfl) ?_
                    refine ln_ge (tgt := 122) (a := n54) (b := p3.2) hx hb dX9_trayFor_115 (by decide) rfl rfl (by omega) (by omega) (fun c_60t => ?_) (fun c_60f => ?_)
                    · refine lv_iconst (v := 0) hx hb dX9_trayFor_122 (by decide) ?_
                      refine lv_istore (lv' := [(8, .int 0), (7, .int (nI n54)), (6, .int 1), (5, .int (nI t)), (4, .int (nI p3.2)), (3, .int (nI p3.1)), (0, .ref (ma 0)), (1, .int (nI sn)), (2, .int (nI k))]) hx hb dX9_trayFor_123 hl (by decide) rfl (fun ls hl => ?_)
                      refine lv_iload hx hb dX9_trayFor_125 (lv_at hl 0 rfl) ?_
                      refine lv_if_eq (tgt := 135) hx hb dX9_trayFor_127 (by decide) (fun _ => ?_) (fun c => absurd c (by decide))
                      refine lv_iload_n hx hb dX9_trayFor_135 rfl (lv_at hl 5 rfl) ?_
                      refine lv_istore_n (lv' := [(3, .int (nI p3.1)), (8, .int 0), (7, .int (nI n54)), (6, .int 1), (5, .int (nI t)), (4, .int (nI p3.2)), (0, .ref (ma 0)), (1, .int (nI sn)), (2, .int (nI k))]) hx hb dX9_trayFor_136 rfl hl (by decide) rfl (fun ls hl => ?_)
                      refine lv_iload hx hb dX9_trayFor_137 (lv_at hl 1 rfl) ?_
                      refine lv_if_eq (tgt := 147) hx hb dX9_trayFor_139 (by decide) (fun _ => ?_) (fun c => absurd c (by decide))
                      refine lv_iload hx hb dX9_trayFor_147 (lv_at hl 5 rfl) ?_
                      refine lv_istore (lv' := [(4, .int (nI p3.2)), (3, .int (nI p3.1)), (8, .int 0), (7, .int (nI n54)), (6, .int 1), (5, .int (nI t)), (0, .ref (ma 0)), (1, .int (nI sn)), (2, .int (nI k))]) hx hb dX9_trayFor_149 hl (by decide) rfl (fun ls hl => ?_)
                      refine lv_iinc (v := nI (t + 1)) (lv' := [(5, .int (nI (t + 1))), (4, .int (nI p3.2)), (3, .int (nI p3.1)), (8, .int 0), (7, .int (nI n54)), (6, .int 1), (0, .ref (ma 0)), (1, .int (nI sn)), (2, .int (nI k))]) hx hb dX9_trayFor_151 hl (k := 5) rfl (nI_inc _) (by decide) rfl (fun ls hl => ?_)
                      refine lv_goto (tgt := 8) hx hb dX9_trayFor_154 (by decide) ?_
                      exact ih1 (t + 1) (some p3) H locs ls (by omega) ((bst_ge (p := (t, n54)) (by simp [tfF, canT, hjs, hxs, c_2f, c_38f, c_43f, ho48, ho50, hjh, hxh, hd54]) (hbb.symm.trans hq3) (show ¬ n54 < p3.2 by omega)).symm) (fun p hp => by cases hp; have := hb64 _ hq3; exact ⟨by omega, by omega⟩) hM hS (by omega) (lv_sub hl [0, 1, 2, 6, 7, 8] rfl)
                    · refine lv_iconst (v := 1) hx hb dX9_trayFor_118 (by decide) ?_
                      refine lv_goto (tgt := 123) hx hb dX9_trayFor_119 (by decide) ?_
                      refine lv_istore (lv' := [(8, .int 1), (7, .int (nI n54)), (6, .int 1), (5, .int (nI t)), (4, .int (nI p3.2)), (3, .int (nI p3.1)), (0, .ref (ma 0)), (1, .int (nI sn)), (2, .int (nI k))]) hx hb dX9_trayFor_123 hl (by decide) rfl (fun ls hl => ?_)
                      refine lv_iload hx hb dX9_trayFor_125 (lv_at hl 0 rfl) ?_
                      refine lv_if_eq (tgt := 135) hx hb dX9_trayFor_127 (by decide) (fun c => absurd c (by decide)) (fun _ => ?_)
                      refine lv_iload hx hb dX9_trayFor_130 (lv_at hl 3 rfl) ?_
                      refine lv_goto (tgt := 136) hx hb dX9_trayFor_132 (by decide) ?_
                      refine lv_istore_n (lv' := [(3, .int (nI t)), (8, .int 1), (7, .int (nI n54)), (6, .int 1), (5, .int (nI t)), (4, .int (nI p3.2)), (0, .ref (ma 0)), (1, .int (nI sn)), (2, .int (nI k))]) hx hb dX9_trayFor_136 rfl hl (by decide) rfl (fun ls hl => ?_)
                      refine lv_iload hx hb dX9_trayFor_137 (lv_at hl 1 rfl) ?_
                      refine lv_if_eq (tgt := 147) hx hb dX9_trayFor_139 (by decide) (fun c => absurd c (by decide)) (fun _ => ?_)
                      refine lv_iload hx hb dX9_trayFor_142 (lv_at hl 2 rfl) ?_
                      refine lv_goto (tgt := 149) hx hb dX9_trayFor_144 (by decide) ?_
                      refine lv_istore (lv' := [(4, .int (nI n54)), (3, .int (nI t)), (8, .int 1), (7, .int (nI n54)), (6, .int 1), (5, .int (nI t)), (0, .ref (ma 0)), (1, .int (nI sn)), (2, .int (nI k))]) hx hb dX9_trayFor_149 hl (by decide) rfl (fun ls hl => ?_)
                      refine lv_iinc (v := nI (t + 1)) (lv' := [(5, .int (nI (t + 1))), (4, .int (nI n54)), (3, .int (nI t)), (8, .int 1), (7, .int (nI n54)), (6, .int 1), (0, .ref (ma 0)), (1, .int (nI sn)), (2, .int (nI k))]) hx hb dX9_trayFor_151 hl (k := 5) rfl (nI_inc _) (by decide) rfl (fun ls hl => ?_)
                      refine lv_goto (tgt := 8) hx hb dX9_trayFor_154 (by decide) ?_
                      exact ih1 (t + 1) (some (t, n54)) H locs ls (by omega) ((bst_lt (by simp [tfF, canT, hjs, hxs, c_2f, c_38f, c_43f, ho48, ho50, hjh, hxh, hd54]) (hbb.symm.trans hq3) (show n54 < p3.2 by omega)).symm) (fun p hp => by cases hp; exact ⟨by omega, by omega⟩) hM hS (by omega) (lv_sub hl [0, 1, 2, 6, 7, 8] rfl)
                · refine top_i (y := nI k50) rfl ?_
                  have hlt_k50 := (lastP_lt ho50).1
                  refine lv_iconst (v := (-1)) hx hb dX9_trayFor_61 (by decide) ?_
                  refine lv_icmp_ne (tgt := 69) hx hb dX9_trayFor_62 (by decide) (fun _ => ?_) (fun c => absurd c (nI_m1 (by omega)))
                  refine lv_iconst (v := 0) hx hb dX9_trayFor_69 (by decide) ?_
                  refine lv_istore (lv' := [(6, .int 0), (5, .int (nI t)), (4, .int (nI p3.2)), (3, .int (nI p3.1)), (0, .ref (ma 0)), (1, .int (nI sn)), (2, .int (nI k))]) hx hb dX9_trayFor_70 hl (by decide) rfl (fun ls hl => ?_)
                  refine lv_iload hx hb dX9_trayFor_72 (lv_at hl 0 rfl) ?_
                  refine lv_if_eq (tgt := 97) hx hb dX9_trayFor_74 (by decide) (fun _ => ?_) (fun c => absurd c (by decide))
                  refine lv_iconst (v := (-1)) hx hb dX9_trayFor_97 (by decide) ?_
                  refine lv_istore (lv' := [(7, .int (-1)), (6, .int 0), (5, .int (nI t)), (4, .int (nI p3.2)), (3, .int (nI p3.1)), (0, .ref (ma 0)), (1, .int (nI sn)), (2, .int (nI k))]) hx hb dX9_trayFor_98 hl (by decide) rfl (fun ls hl => ?_)
                  refine lv_iload hx hb dX9_trayFor_100 (lv_at hl 0 rfl) ?_
                  refine lv_iconst (v := (-1)) hx hb dX9_trayFor_102 (by decide) ?_
                  refine lv_icmp_eq (tgt := 122) hx hb dX9_trayFor_103 (by decide) (fun _ => ?_) (fun c => absurd c (by decide))
                  refine lv_iconst (v := 0) hx hb dX9_trayFor_122 (by decide) ?_
                  refine lv_istore (lv' := [(8, .int 0), (7, .int (-1)), (6, .int 0), (5, .int (nI t)), (4, .int (nI p3.2)), (3, .int (nI p3.1)), (0, .ref (ma 0)), (1, .int (nI sn)), (2, .int (nI k))]) hx hb dX9_trayFor_123 hl (by decide) rfl (fun ls hl => ?_)
                  refine lv_iload hx hb dX9_trayFor_125 (lv_at hl 0 rfl) ?_
                  refine lv_if_eq (tgt := 135) hx hb dX9_trayFor_127 (by decide) (fun _ => ?_) (fun c => absurd c (by decide))
                  refine lv_iload_n hx hb dX9_trayFor_135 rfl (lv_at hl 5 rfl) ?_
                  refine lv_istore_n (lv' := [(3, .int (nI p3.1)), (8, .int 0), (7, .int (-1)), (6, .int 0), (5, .int (nI t)), (4, .int (nI p3.2)), (0, .ref (ma 0)), (1, .int (nI sn)), (2, .int (nI k))]) hx hb dX9_trayFor_136 rfl hl (by decide) rfl (fun ls hl => ?_)
                  refine lv_iload hx hb dX9_trayFor_137 (lv_at hl 1 rfl) ?_
                  refine lv_if_eq (tgt := 147) hx hb dX9_trayFor_139 (by decide) (fun _ => ?_) (fun c => absurd c (by decide))
                  refine lv_iload hx hb dX9_trayFor_147 (lv_at hl 5 rfl) ?_
                  refine lv_istore (lv' := [(4, .int (nI p3.2)), (3, .int (nI p3.1)), (8, .int 0), (7, .int (-1)), (6, .int 0), (5, .int (nI t)), (0, .ref (ma 0)), (1, .int (nI sn)), (2, .int (nI k))]) hx hb dX9_trayFor_149 hl (by decide) rfl (fun ls hl => ?_)
                  refine lv_iinc (v := nI (t + 1)) (lv' := [(5, .int (nI (t + 1))), (4, .int (nI p3.2)), (3, .int (nI p3.1)), (8, .int 0), (7, .int (-1)), (6, .int 0), (0, .ref (ma 0)), (1, .int (nI sn)), (2, .int (nI k))]) hx hb dX9_trayFor_151 hl (k := 5) rfl (nI_inc _) (by decide) rfl (fun ls hl => ?_)
                  refine lv_goto (tgt := 8) hx hb dX9_trayFor_154 (by decide) ?_
                  exact ih1 (t + 1) (some p3) H locs ls (by omega) (hq3.symm.trans (hbb.trans (bst_skip (by simp [tfF, canT, hjs, hxs, c_2f, c_38f, c_43f, ho48, ho50])).symm)) (fun p hp => by cases hp; have := hb64 _ hq3; exact ⟨by omega, by omega⟩) hM hS (by omega) (lv_sub hl [0, 1, 2, 6, 7, 8] rfl)
              · refine top_i (y := nI k48) rfl ?_
                have hlt_k48 := (lastP_lt ho48).1
                refine lv_iconst (v := (-1)) hx hb dX9_trayFor_50 (by decide) ?_
                refine lv_icmp_ne (tgt := 69) hx hb dX9_trayFor_51 (by decide) (fun _ => ?_) (fun c => absurd c (nI_m1 (by omega)))
                refine lv_iconst (v := 0) hx hb dX9_trayFor_69 (by decide) ?_
                refine lv_istore (lv' := [(6, .int 0), (5, .int (nI t)), (4, .int (nI p3.2)), (3, .int (nI p3.1)), (0, .ref (ma 0)), (1, .int (nI sn)), (2, .int (nI k))]) hx hb dX9_trayFor_70 hl (by decide) rfl (fun ls hl => ?_)
                refine lv_iload hx hb dX9_trayFor_72 (lv_at hl 0 rfl) ?_
                refine lv_if_eq (tgt := 97) hx hb dX9_trayFor_74 (by decide) (fun _ => ?_) (fun c => absurd c (by decide))
                refine lv_iconst (v := (-1)) hx hb dX9_trayFor_97 (by decide) ?_
                refine lv_istore (lv' := [(7, .int (-1)), (6, .int 0), (5, .int (nI t)), (4, .int (nI p3.2)), (3, .int (nI p3.1)), (0, .ref (ma 0)), (1, .int (nI sn)), (2, .int (nI k))]) hx hb dX9_trayFor_98 hl (by decide) rfl (fun ls hl => ?_)
                refine lv_iload hx hb dX9_trayFor_100 (lv_at hl 0 rfl) ?_
                refine lv_iconst (v := (-1)) hx hb dX9_trayFor_102 (by decide) ?_
                refine lv_icmp_eq (tgt := 122) hx hb dX9_trayFor_103 (by decide) (fun _ => ?_) (fun c => absurd c (by decide))
                refine lv_iconst (v := 0) hx hb dX9_trayFor_122 (by decide) ?_
                refine lv_istore (lv' := [(8, .int 0), (7, .int (-1)), (6, .int 0), (5, .int (nI t)), (4, .int (nI p3.2)), (3, .int (nI p3.1)), (0, .ref (ma 0)), (1, .int (nI sn)), (2, .int (nI k))]) hx hb dX9_trayFor_123 hl (by decide) rfl (fun ls hl => ?_)
                refine lv_iload hx hb dX9_trayFor_125 (lv_at hl 0 rfl) ?_
                refine lv_if_eq (tgt := 135) hx hb dX9_trayFor_127 (by decide) (fun _ => ?_) (fun c => absurd c (by decide))
                refine lv_iload_n hx hb dX9_trayFor_135 rfl (lv_at hl 5 rfl) ?_
                refine lv_istore_n (lv' := [(3, .int (nI p3.1)), (8, .int 0), (7, .int (-1)), (6, .int 0), (5, .int (nI t)), (4, .int (nI p3.2)), (0, .ref (ma 0)), (1, .int (nI sn)), (2, .int (nI k))]) hx hb dX9_trayFor_136 rfl hl (by decide) rfl (fun ls hl => ?_)
                refine lv_iload hx hb dX9_trayFor_137 (lv_at hl 1 rfl) ?_
                refine lv_if_eq (tgt := 147) hx hb dX9_trayFor_139 (by decide) (fun _ => ?_) (fun c => absurd c (by decide))
                refine lv_iload hx hb dX9_trayFor_147 (lv_at hl 5 rfl) ?_
                refine lv_istore (lv' := [(4, .int (nI p3.2)), (3, .int (nI p3.1)), (8, .int 0), (7, .int (-1)), (6, .int 0), (5, .int (nI t)), (0, .ref (ma 0)), (1, .int (nI sn)), (2, .int (nI k))]) hx hb dX9_trayFor_149 hl (by decide) rfl (fun ls hl => ?_)
                refine lv_iinc (v := nI (t + 1)) (lv' := [(5, .int (nI (t + 1))), (4, .int (nI p3.2)), (3, .int (nI p3.1)), (8, .int 0), (7, .int (-1)), (6, .int 0), (0, .ref (ma 0)), (1, .int (nI sn)), (2, .int (nI k))]) hx hb dX9_trayFor_151 hl (k := 5) rfl (nI_inc _) (by decide) rfl (fun ls hl => ?_)
                refine lv_goto (tgt := 8) hx hb dX9_trayFor_154 (by decide) ?_
                exact ih1 (t + 1) (some p3) H locs ls (by omega) (hq3.symm.trans (hbb.trans (bst_skip (by simp [tfF, canT, hjs, hxs, c_2f, c_38f, c_43f, ho48])).symm)) (fun p hp => by cases hp; have := hb64 _ hq3; exact ⟨by omega, by omega⟩) hM hS (by omega) (lv_sub hl [0, 1, 2, 6, 7, 8] rfl)
  exact loop1 ((nT M - 0) + 1) 0 none H locs ls (by omega) rfl (fun p hp => by cases hp) hM.none hS (by omega) (lv_sub hl [0, 1, 2, 3, 4, 5] rfl)
set_option maxHeartbeats 4000000 in
set_option maxRecDepth 100000 in
theorem c9_robotFor (l : Launch) (G : gG) (ma : Nat → Nat) (M : MS) (D : mD) (h : Nat) (hI : mI ma) (hcnt : CNT M) (hh : h < 64) (hVC : ∀ r, r < nR M → ∃ j, j < 64 ∧ M 18 r = nI j) : Met l yX9_robotFor (wB yX9_robotFor cX9_robotFor 7 (some .int)) (rmL 4 0 0) (va_Pc [.ref (ma 0), .int (nI h)] (mB G ma M D)) (mQi G ma none (fun r M' => r = oI ((robB M h).map (fun q => q.1)) ∧ M' = M)) 0 0 (mA ma) := by
  refine st_N (own := RX9) (by decide +kernel) rfl (Nat.le_of_ble_eq_true rfl) ?_
  intro p e s m below meth c ls args Q hQ hC hr hlk hnm hl hP
  obtain ⟨hM, hK⟩ := hP
  have hx := hC.1
  have hb := hC.2.1
  have hl : lv_has ls 7 [(0, .ref (ma 0)), (1, .int (nI h))] := hl
  have hS : va_S (mA ma) s.heap s.heap [] := va_S.rf
  obtain ⟨H, locs, hHe, hLe⟩ : ∃ (H : Heap) (locs : List Loc), H = s.heap ∧ locs = [] := ⟨_, _, rfl, rfl⟩
  rw [← hHe] at hM
  have hS : va_S (mA ma) s.heap H locs := by rw [hHe, hLe]; exact va_S.rf
  suffices hgo : W p l e (rmL 4 0 0) s m args below meth c H locs 0 0 Q (F0 m 0 ls []) by
    rw [hHe, hLe] at hgo
    exact hgo
  clear hHe hLe
  have h6 := hcnt.R6
  have h3 := hcnt.S3
  have h16 := hcnt.T16
  have h10 := hcnt.O10
  refine lv_iconst (v := (-1)) hx hb dX9_robotFor_0 (by decide) ?_
  refine lv_istore_n (lv' := [(2, .int (-1)), (0, .ref (ma 0)), (1, .int (nI h))]) hx hb dX9_robotFor_1 rfl hl (by decide) rfl (fun ls hl => ?_)
  refine lv_iconst (v := 0) hx hb dX9_robotFor_2 (by decide) ?_
  refine lv_istore_n (lv' := [(3, .int 0), (2, .int (-1)), (0, .ref (ma 0)), (1, .int (nI h))]) hx hb dX9_robotFor_3 rfl hl (by decide) rfl (fun ls hl => ?_)
  refine lv_iconst (v := 0) hx hb dX9_robotFor_4 (by decide) ?_
  refine lv_istore (lv' := [(4, .int 0), (3, .int 0), (2, .int (-1)), (0, .ref (ma 0)), (1, .int (nI h))]) hx hb dX9_robotFor_5 hl (by decide) rfl (fun ls hl => ?_)
  have loop1 : ∀ (n : Nat) (r : Nat) (b : Option (Nat × Nat)) (H : Heap) (locs : List Loc) (ls : Array Slot) (hin : r ≤ nR M) (hbb : b = bst (rfF M h) r) (hb64 : ∀ p, b = some p → p.1 < r ∧ p.2 ≤ 64) (hM : WS G ma M none H) (hS : va_S (mA ma) s.heap H locs), nR M - r < n → lv_has ls 7 [(4, .int (nI r)), (3, .int (nI ((b.map (fun q => q.2)).getD 0))), (2, .int (oI (b.map (fun q => q.1)))), (0, .ref (ma 0)), (1, .int (nI h))] → W p l e (rmL 4 0 0) s m args below meth c H locs 0 0 Q (F0 m 7 ls []) := by
    intro n
    induction n with
    | zero => intro r b H locs ls hin hbb hb64 hM hS hm hl; omega
    | succ n ih1 =>
      intro r b H locs ls hin hbb hb64 hM hS hm hl
      refine lv_iload hx hb dX9_robotFor_7 (lv_at hl 0 rfl) ?_
      refine lv_aload_n hx hb dX9_robotFor_9 rfl (lv_at hl 3 rfl) ?_
      refine ms_get hC hK hM 17 (by decide) fl_X9_103 rfl (v := .int (nI (nR M))) (congrArg Value.int (show M 17 0 = (nI (nR M)) from hcnt.R)) (fun q => rfl) dX9_robotFor_10 ?_
      refine ln_ge (tgt := 98) (a := r) (b := (nR M)) hx hb dX9_robotFor_13 (by decide) rfl rfl (by omega) (by omega) (fun c_2t => ?_) (fun c_2f => ?_)
      · refine lv_iload_n hx hb dX9_robotFor_98 rfl (lv_at hl 2 rfl) ?_
        subst hQ
        exact rt_mi hx hb hr hlk hM.none hS  (⟨by rw [hbb, show r = nR M by omega]; rfl, rfl⟩) dX9_robotFor_99
      · rcases hq3 : b with _ | p3
        · have hl : lv_has ls 7 [(4, .int (nI r)), (3, .int (nI 0)), (2, .int (-1)), (0, .ref (ma 0)), (1, .int (nI h))] := by rw [hq3] at hl; exact hl
          refine lv_aload_n hx hb dX9_robotFor_16 rfl (lv_at hl 3 rfl) ?_
          refine ms_get hC hK hM 20 (by decide) fl_X9_50 rfl (v := .ref (ma 20)) rfl (fun q => rfl) dX9_robotFor_17 ?_
          refine lv_iload hx hb dX9_robotFor_20 (lv_at hl 0 rfl) ?_
          refine ms_ild hC hK hM 20 (i := r) (show r < 6 from by omega) (by decide) rfl rfl (v := M 20 r) rfl dX9_robotFor_22 ?_
          refine lv_if_ne (tgt := 41) hx hb dX9_robotFor_23 (by decide) (fun c_4t => ?_) (fun c_4f => ?_)
          · refine lv_iconst (v := (-1)) hx hb dX9_robotFor_41 (by decide) ?_
            refine lv_istore (lv' := [(5, .int (-1)), (4, .int (nI r)), (3, .int (nI 0)), (2, .int (-1)), (0, .ref (ma 0)), (1, .int (nI h))]) hx hb dX9_robotFor_42 hl (by decide) rfl (fun ls hl => ?_)
            refine lv_iload hx hb dX9_robotFor_44 (lv_at hl 0 rfl) ?_
            refine lv_iconst (v := (-1)) hx hb dX9_robotFor_46 (by decide) ?_
            refine lv_icmp_eq (tgt := 65) hx hb dX9_robotFor_47 (by decide) (fun _ => ?_) (fun c => absurd c (by decide))
            refine lv_iconst (v := 0) hx hb dX9_robotFor_65 (by decide) ?_
            refine lv_istore (lv' := [(6, .int 0), (5, .int (-1)), (4, .int (nI r)), (3, .int (nI 0)), (2, .int (-1)), (0, .ref (ma 0)), (1, .int (nI h))]) hx hb dX9_robotFor_66 hl (by decide) rfl (fun ls hl => ?_)
            refine lv_iload hx hb dX9_robotFor_68 (lv_at hl 0 rfl) ?_
            refine lv_if_eq (tgt := 78) hx hb dX9_robotFor_70 (by decide) (fun _ => ?_) (fun c => absurd c (by decide))
            refine lv_iload_n hx hb dX9_robotFor_78 rfl (lv_at hl 4 rfl) ?_
            refine lv_istore_n (lv' := [(2, .int (-1)), (6, .int 0), (5, .int (-1)), (4, .int (nI r)), (3, .int (nI 0)), (0, .ref (ma 0)), (1, .int (nI h))]) hx hb dX9_robotFor_79 rfl hl (by decide) rfl (fun ls hl => ?_)
            refine lv_iload hx hb dX9_robotFor_80 (lv_at hl 1 rfl) ?_
            refine lv_if_eq (tgt := 90) hx hb dX9_robotFor_82 (by decide) (fun _ => ?_) (fun c => absurd c (by decide))
            refine lv_iload_n hx hb dX9_robotFor_90 rfl (lv_at hl 4 rfl) ?_
            refine lv_istore_n (lv' := [(3, .int (nI 0)), (2, .int (-1)), (6, .int 0), (5, .int (-1)), (4, .int (nI r)), (0, .ref (ma 0)), (1, .int (nI h))]) hx hb dX9_robotFor_91 rfl hl (by decide) rfl (fun ls hl => ?_)
            refine lv_iinc (v := nI (r + 1)) (lv' := [(4, .int (nI (r + 1))), (3, .int (nI 0)), (2, .int (-1)), (6, .int 0), (5, .int (-1)), (0, .ref (ma 0)), (1, .int (nI h))]) hx hb dX9_robotFor_92 hl (k := 4) rfl (nI_inc _) (by decide) rfl (fun ls hl => ?_)
            refine lv_goto (tgt := 7) hx hb dX9_robotFor_95 (by decide) ?_
            exact ih1 (r + 1) none H locs ls (by omega) (hq3.symm.trans (hbb.trans (bst_skip (by simp [rfF, c_2f, c_4t])).symm)) (fun p hp => by cases hp) hM hS (by omega) (lv_sub hl [0, 1, 2, 5, 6] rfl)
          · obtain ⟨jc, hjc64, hjc⟩ := hVC r (by omega)
            have hxc := ix_nI (n := jc) (by omega)
            refine lv_aload_n hx hb dX9_robotFor_26 rfl (lv_at hl 3 rfl) ?_
            refine lv_aload_n hx hb dX9_robotFor_27 rfl (lv_at hl 3 rfl) ?_
            refine ms_get hC hK hM 18 (by decide) fl_X9_44 rfl (v := .ref (ma 18)) rfl (fun q => rfl) dX9_robotFor_28 ?_
            refine lv_iload hx hb dX9_robotFor_31 (lv_at hl 0 rfl) ?_
            refine ms_ild hC hK hM 18 (i := r) (show r < 6 from by omega) (by decide) rfl rfl (v := nI jc) hjc dX9_robotFor_33 ?_
            refine lv_iload_n hx hb dX9_robotFor_34 rfl (lv_at hl 4 rfl) ?_
            refine mcl_i (run_V hC (c9_distanceOf l G ma M none jc h hI hcnt (by omega) (by omega)) (As := [.int (nI jc), .int (nI h)]) (rest := []) rfl rfl ml_X9_143 im_X9_distanceOf se_X9_distanceOf ini_X9 cd_X9_distanceOf ⟨rfl, na_X9_distanceOf⟩ mB_blind (mr_recv hK hM) (mr_B hK hM) hl.1 (Nat.le_of_ble_eq_true rfl) ⟨Nat.le_of_ble_eq_true rfl, Nat.le_of_ble_eq_true rfl⟩ ⟨Nat.le_refl _, Nat.le_refl _⟩ rfl dX9_robotFor_35) hS (fun _ h => h) (fun r8 M8 H locs hp8 hM hS => ?_)
            obtain ⟨hr8, hm8⟩ := hp8
            rw [hm8] at hM
            refine top_i (y := oI (dGM M jc h)) hr8 ?_
            rcases hd9 : dGM M jc h with _ | n9
            · refine top_i (y := -1) rfl ?_
              refine lv_goto (tgt := 42) hx hb dX9_robotFor_38 (by decide) ?_
              refine lv_istore (lv' := [(5, .int (-1)), (4, .int (nI r)), (3, .int (nI 0)), (2, .int (-1)), (0, .ref (ma 0)), (1, .int (nI h))]) hx hb dX9_robotFor_42 hl (by decide) rfl (fun ls hl => ?_)
              refine lv_iload hx hb dX9_robotFor_44 (lv_at hl 0 rfl) ?_
              refine lv_iconst (v := (-1)) hx hb dX9_robotFor_46 (by decide) ?_
              refine lv_icmp_eq (tgt := 65) hx hb dX9_robotFor_47 (by decide) (fun _ => ?_) (fun c => absurd c (by decide))
              refine lv_iconst (v := 0) hx hb dX9_robotFor_65 (by decide) ?_
              refine lv_istore (lv' := [(6, .int 0), (5, .int (-1)), (4, .int (nI r)), (3, .int (nI 0)), (2, .int (-1)), (0, .ref (ma 0)), (1, .int (nI h))]) hx hb dX9_robotFor_66 hl (by decide) rfl (fun ls hl => ?_)
              refine lv_iload hx hb dX9_robotFor_68 (lv_at hl 0 rfl) ?_
              refine lv_if_eq (tgt := 78) hx hb dX9_robotFor_70 (by decide) (fun _ => ?_) (fun c => absurd c (by decide))
              refine lv_iload_n hx hb dX9_robotFor_78 rfl (lv_at hl 4 rfl) ?_
              refine lv_istore_n (lv' := [(2, .int (-1)), (6, .int 0), (5, .int (-1)), (4, .int (nI r)), (3, .int (nI 0)), (0, .ref (ma 0)), (1, .int (nI h))]) hx hb dX9_robotFor_79 rfl hl (by decide) rfl (fun ls hl => ?_)
              refine lv_iload hx hb dX9_robotFor_80 (lv_at hl 1 rfl) ?_
              refine lv_if_eq (tgt := 90) hx hb dX9_robotFor_82 (by decide) (fun _ => ?_) (fun c => absurd c (by decide))
              refine lv_iload_n hx hb dX9_robotFor_90 rfl (lv_at hl 4 rfl) ?_
              refine lv_istore_n (lv' := [(3, .int (nI 0)), (2, .int (-1)), (6, .int 0), (5, .int (-1)), (4, .int (nI r)), (0, .ref (ma 0)), (1, .int (nI h))]) hx hb dX9_robotFor_91 rfl hl (by decide) rfl (fun ls hl => ?_)
              refine lv_iinc (v := nI (r + 1)) (lv' := [(4, .int (nI (r + 1))), (3, .int (nI 0)), (2, .int (-1)), (6, .int 0), (5, .int (-1)), (0, .ref (ma 0)), (1, .int (nI h))]) hx hb dX9_robotFor_92 hl (k := 4) rfl (nI_inc _) (by decide) rfl (fun ls hl => ?_)
              refine lv_goto (tgt := 7) hx hb dX9_robotFor_95 (by decide) ?_
              exact ih1 (r + 1) none H locs ls (by omega) (hq3.symm.trans (hbb.trans (bst_skip (by simp [rfF, c_2f, c_4f, hjc, hxc, hd9])).symm)) (fun p hp => by cases hp) hM hS (by omega) (lv_sub hl [0, 1, 2, 5, 6] rfl)
            · refine top_i (y := nI n9) rfl ?_
              have hn64 := dGM_64 (by omega) (by omega) hd9
              refine lv_goto (tgt := 42) hx hb dX9_robotFor_38 (by decide) ?_
              refine lv_istore (lv' := [(5, .int (nI n9)), (4, .int (nI r)), (3, .int (nI 0)), (2, .int (-1)), (0, .ref (ma 0)), (1, .int (nI h))]) hx hb dX9_robotFor_42 hl (by decide) rfl (fun ls hl => ?_)
              refine lv_iload hx hb dX9_robotFor_44 (lv_at hl 0 rfl) ?_
              refine lv_iconst (v := (-1)) hx hb dX9_robotFor_46 (by decide) ?_
              refine lv_icmp_eq (tgt := 65) hx hb dX9_robotFor_47 (by decide) (fun c => absurd c (nI_m1 (by omega))) (fun _ => ?_)
              refine lv_iload_n hx hb dX9_robotFor_50 rfl (lv_at hl 3 rfl) ?_
              refine lv_iconst (v := (-1)) hx hb dX9_robotFor_51 (by decide) ?_
              refine lv_icmp_eq (tgt := 61) hx hb dX9_robotFor_52 (by decide) (fun _ => ?_) (fun c => absurd c (by decide))
              refine lv_iconst (v := 1) hx hb dX9_robotFor_61 (by decide) ?_
              refine lv_goto (tgt := 66) hx hb dX9_robotFor_62 (by decide) ?_
              refine lv_istore (lv' := [(6, .int 1), (5, .int (nI n9)), (4, .int (nI r)), (3, .int (nI 0)), (2, .int (-1)), (0, .ref (ma 0)), (1, .int (nI h))]) hx hb dX9_robotFor_66 hl (by decide) rfl (fun ls hl => ?_)
              refine lv_iload hx hb dX9_robotFor_68 (lv_at hl 0 rfl) ?_
              refine lv_if_eq (tgt := 78) hx hb dX9_robotFor_70 (by decide) (fun c => absurd c (by decide)) (fun _ => ?_)
              refine lv_iload hx hb dX9_robotFor_73 (lv_at hl 2 rfl) ?_
              refine lv_goto (tgt := 79) hx hb dX9_robotFor_75 (by decide) ?_
              refine lv_istore_n (lv' := [(2, .int (nI r)), (6, .int 1), (5, .int (nI n9)), (4, .int (nI r)), (3, .int (nI 0)), (0, .ref (ma 0)), (1, .int (nI h))]) hx hb dX9_robotFor_79 rfl hl (by decide) rfl (fun ls hl => ?_)
              refine lv_iload hx hb dX9_robotFor_80 (lv_at hl 1 rfl) ?_
              refine lv_if_eq (tgt := 90) hx hb dX9_robotFor_82 (by decide) (fun c => absurd c (by decide)) (fun _ => ?_)
              refine lv_iload hx hb dX9_robotFor_85 (lv_at hl 2 rfl) ?_
              refine lv_goto (tgt := 91) hx hb dX9_robotFor_87 (by decide) ?_
              refine lv_istore_n (lv' := [(3, .int (nI n9)), (2, .int (nI r)), (6, .int 1), (5, .int (nI n9)), (4, .int (nI r)), (0, .ref (ma 0)), (1, .int (nI h))]) hx hb dX9_robotFor_91 rfl hl (by decide) rfl (fun ls hl => ?_)
              refine lv_iinc (v := nI (r + 1)) (lv' := [(4, .int (nI (r + 1))), (3, .int (nI n9)), (2, .int (nI r)), (6, .int 1), (5, .int (nI n9)), (0, .ref (ma 0)), (1, .int (nI h))]) hx hb dX9_robotFor_92 hl (k := 4) rfl (nI_inc _) (by decide) rfl (fun ls hl => ?_)
              refine lv_goto (tgt := 7) hx hb dX9_robotFor_95 (by decide) ?_
              exact ih1 (r + 1) (some (r, n9)) H locs ls (by omega) ((bst_new (by simp [rfF, c_2f, c_4f, hjc, hxc, hd9]) (hbb.symm.trans hq3)).symm) (fun p hp => by cases hp; exact ⟨by omega, by omega⟩) hM hS (by omega) (lv_sub hl [0, 1, 2, 5, 6] rfl)
        · have hl : lv_has ls 7 [(4, .int (nI r)), (3, .int (nI p3.2)), (2, .int (nI p3.1)), (0, .ref (ma 0)), (1, .int (nI h))] := by rw [hq3] at hl; exact hl
          have hp64 := hb64 _ hq3
          refine lv_aload_n hx hb dX9_robotFor_16 rfl (lv_at hl 3 rfl) ?_
          refine ms_get hC hK hM 20 (by decide) fl_X9_50 rfl (v := .ref (ma 20)) rfl (fun q => rfl) dX9_robotFor_17 ?_
          refine lv_iload hx hb dX9_robotFor_20 (lv_at hl 0 rfl) ?_
          refine ms_ild hC hK hM 20 (i := r) (show r < 6 from by omega) (by decide) rfl rfl (v := M 20 r) rfl dX9_robotFor_22 ?_
          refine lv_if_ne (tgt := 41) hx hb dX9_robotFor_23 (by decide) (fun c_17t => ?_) (fun c_17f => ?_)
          · refine lv_iconst (v := (-1)) hx hb dX9_robotFor_41 (by decide) ?_
            refine lv_istore (lv' := [(5, .int (-1)), (4, .int (nI r)), (3, .int (nI p3.2)), (2, .int (nI p3.1)), (0, .ref (ma 0)), (1, .int (nI h))]) hx hb dX9_robotFor_42 hl (by decide) rfl (fun ls hl => ?_)
            refine lv_iload hx hb dX9_robotFor_44 (lv_at hl 0 rfl) ?_
            refine lv_iconst (v := (-1)) hx hb dX9_robotFor_46 (by decide) ?_
            refine lv_icmp_eq (tgt := 65) hx hb dX9_robotFor_47 (by decide) (fun _ => ?_) (fun c => absurd c (by decide))
            refine lv_iconst (v := 0) hx hb dX9_robotFor_65 (by decide) ?_
            refine lv_istore (lv' := [(6, .int 0), (5, .int (-1)), (4, .int (nI r)), (3, .int (nI p3.2)), (2, .int (nI p3.1)), (0, .ref (ma 0)), (1, .int (nI h))]) hx hb dX9_robotFor_66 hl (by decide) rfl (fun ls hl => ?_)
            refine lv_iload hx hb dX9_robotFor_68 (lv_at hl 0 rfl) ?_
            refine lv_if_eq (tgt := 78) hx hb dX9_robotFor_70 (by decide) (fun _ => ?_) (fun c => absurd c (by decide))
            refine lv_iload_n hx hb dX9_robotFor_78 rfl (lv_at hl 4 rfl) ?_
            refine lv_istore_n (lv' := [(2, .int (nI p3.1)), (6, .int 0), (5, .int (-1)), (4, .int (nI r)), (3, .int (nI p3.2)), (0, .ref (ma 0)), (1, .int (nI h))]) hx hb dX9_robotFor_79 rfl hl (by decide) rfl (fun ls hl => ?_)
            refine lv_iload hx hb dX9_robotFor_80 (lv_at hl 1 rfl) ?_
            refine lv_if_eq (tgt := 90) hx hb dX9_robotFor_82 (by decide) (fun _ => ?_) (fun c => absurd c (by decide))
            refine lv_iload_n hx hb dX9_robotFor_90 rfl (lv_at hl 4 rfl) ?_
            refine lv_istore_n (lv' := [(3, .int (nI p3.2)), (2, .int (nI p3.1)), (6, .int 0), (5, .int (-1)), (4, .int (nI r)), (0, .ref (ma 0)), (1, .int (nI h))]) hx hb dX9_robotFor_91 rfl hl (by decide) rfl (fun ls hl => ?_)
            refine lv_iinc (v := nI (r + 1)) (lv' := [(4, .int (nI (r + 1))), (3, .int (nI p3.2)), (2, .int (nI p3.1)), (6, .int 0), (5, .int (-1)), (0, .ref (ma 0)), (1, .int (nI h))]) hx hb dX9_robotFor_92 hl (k := 4) rfl (nI_inc _) (by decide) rfl (fun ls hl => ?_)
            refine lv_goto (tgt := 7) hx hb dX9_robotFor_95 (by decide) ?_
            exact ih1 (r + 1) (some p3) H locs ls (by omega) (hq3.symm.trans (hbb.trans (bst_skip (by simp [rfF, c_2f, c_17t])).symm)) (fun p hp => by cases hp; have := hb64 _ hq3; exact ⟨by omega, by omega⟩) hM hS (by omega) (lv_sub hl [0, 1, 2, 5, 6] rfl)
          · obtain ⟨jc, hjc64, hjc⟩ := hVC r (by omega)
            have hxc := ix_nI (n := jc) (by omega)
            refine lv_aload_n hx hb dX9_robotFor_26 rfl (lv_at hl 3 rfl) ?_
            refine lv_aload_n hx hb dX9_robotFor_27 rfl (lv_at hl 3 rfl) ?_
            refine ms_get hC hK hM 18 (by decide) fl_X9_44 rfl (v := .ref (ma 18)) rfl (fun q => rfl) dX9_robotFor_28 ?_
            refine lv_iload hx hb dX9_robotFor_31 (lv_at hl 0 rfl) ?_
            refine ms_ild hC hK hM 18 (i := r) (show r < 6 from by omega) (by decide) rfl rfl (v := nI jc) hjc dX9_robotFor_33 ?_
            refine lv_iload_n hx hb dX9_robotFor_34 rfl (lv_at hl 4 rfl) ?_
            refine mcl_i (run_V hC (c9_distanceOf l G ma M none jc h hI hcnt (by omega) (by omega)) (As := [.int (nI jc), .int (nI h)]) (rest := []) rfl rfl ml_X9_143 im_X9_distanceOf se_X9_distanceOf ini_X9 cd_X9_distanceOf ⟨rfl, na_X9_distanceOf⟩ mB_blind (mr_recv hK hM) (mr_B hK hM) hl.1 (Nat.le_of_ble_eq_true rfl) ⟨Nat.le_of_ble_eq_true rfl, Nat.le_of_ble_eq_true rfl⟩ ⟨Nat.le_refl _, Nat.le_refl _⟩ rfl dX9_robotFor_35) hS (fun _ h => h) (fun r21 M21 H locs hp21 hM hS => ?_)
            obtain ⟨hr21, hm21⟩ := hp21
            rw [hm21] at hM
            refine top_i (y := oI (dGM M jc h)) hr21 ?_
            rcases hd22 : dGM M jc h with _ | n22
            · refine top_i (y := -1) rfl ?_
              refine lv_goto (tgt := 42) hx hb dX9_robotFor_38 (by decide) ?_
              refine lv_istore (lv' := [(5, .int (-1)), (4, .int (nI r)), (3, .int (nI p3.2)), (2, .int (nI p3.1)), (0, .ref (ma 0)), (1, .int (nI h))]) hx hb dX9_robotFor_42 hl (by decide) rfl (fun ls hl => ?_)
              refine lv_iload hx hb dX9_robotFor_44 (lv_at hl 0 rfl) ?_
              refine lv_iconst (v := (-1)) hx hb dX9_robotFor_46 (by decide) ?_
              refine lv_icmp_eq (tgt := 65) hx hb dX9_robotFor_47 (by decide) (fun _ => ?_) (fun c => absurd c (by decide))
              refine lv_iconst (v := 0) hx hb dX9_robotFor_65 (by decide) ?_
              refine lv_istore (lv' := [(6, .int 0), (5, .int (-1)), (4, .int (nI r)), (3, .int (nI p3.2)), (2, .int (nI p3.1)), (0, .ref (ma 0)), (1, .int (nI h))]) hx hb dX9_robotFor_66 hl (by decide) rfl (fun ls hl => ?_)
              refine lv_iload hx hb dX9_robotFor_68 (lv_at hl 0 rfl) ?_
              refine lv_if_eq (tgt := 78) hx hb dX9_robotFor_70 (by decide) (fun _ => ?_) (fun c => absurd c (by decide))
              refine lv_iload_n hx hb dX9_robotFor_78 rfl (lv_at hl 4 rfl) ?_
              refine lv_istore_n (lv' := [(2, .int (nI p3.1)), (6, .int 0), (5, .int (-1)), (4, .int (nI r)), (3, .int (nI p3.2)), (0, .ref (ma 0)), (1, .int (nI h))]) hx hb dX9_robotFor_79 rfl hl (by decide) rfl (fun ls hl => ?_)
              refine lv_iload hx hb dX9_robotFor_80 (lv_at hl 1 rfl) ?_
              refine lv_if_eq (tgt := 90) hx hb dX9_robotFor_82 (by decide) (fun _ => ?_) (fun c => absurd c (by decide))
              refine lv_iload_n hx hb dX9_robotFor_90 rfl (lv_at hl 4 rfl) ?_
              refine lv_istore_n (lv' := [(3, .int (nI p3.2)), (2, .int (nI p3.1)), (6, .int 0), (5, .int (-1)), (4, .int (nI r)), (0, .ref (ma 0)), (1, .int (nI h))]) hx hb dX9_robotFor_91 rfl hl (by decide) rfl (fun ls hl => ?_)
              refine lv_iinc (v := nI (r + 1)) (lv' := [(4, .int (nI (r + 1))), (3, .int (nI p3.2)), (2, .int (nI p3.1)), (6, .int 0), (5, .int (-1)), (0, .ref (ma 0)), (1, .int (nI h))]) hx hb dX9_robotFor_92 hl (k := 4) rfl (nI_inc _) (by decide) rfl (fun ls hl => ?_)
              refine lv_goto (tgt := 7) hx hb dX9_robotFor_95 (by decide) ?_
              exact ih1 (r + 1) (some p3) H locs ls (by omega) (hq3.symm.trans (hbb.trans (bst_skip (by simp [rfF, c_2f, c_17f, hjc, hxc, hd22])).symm)) (fun p hp => by cases hp; have := hb64 _ hq3; exact ⟨by omega, by omega⟩) hM hS (by omega) (lv_sub hl [0, 1, 2, 5, 6] rfl)
            · refine top_i (y := nI n22) rfl ?_
              have hn64 := dGM_64 (by omega) (by omega) hd22
              refine lv_goto (tgt := 42) hx hb dX9_robotFor_38 (by decide) ?_
              refine lv_istore (lv' := [(5, .int (nI n22)), (4, .int (nI r)), (3, .int (nI p3.2)), (2, .int (nI p3.1)), (0, .ref (ma 0)), (1, .int (nI h))]) hx hb dX9_robotFor_42 hl (by decide) rfl (fun ls hl => ?_)
              refine lv_iload hx hb dX9_robotFor_44 (lv_at hl 0 rfl) ?_
              refine lv_iconst (v := (-1)) hx hb dX9_robotFor_46 (by decide) ?_
              refine lv_icmp_eq (tgt := 65) hx hb dX9_robotFor_47 (by decide) (fun c => absurd c (nI_m1 (by omega))) (fun _ => ?_)
              refine lv_iload_n hx hb dX9_robotFor_50 rfl (lv_at hl 3 rfl) ?_
              refine lv_iconst (v := (-1)) hx hb dX9_robotFor_51 (by decide) ?_
              refine lv_icmp_eq (tgt := 61) hx hb dX9_robotFor_52 (by decide) (fun c => absurd c (nI_m1 (by omega))) (fun _ => ?_)
              refine lv_iload hx hb dX9_robotFor_55 (lv_at hl 0 rfl) ?_
              refine lv_iload_n hx hb dX9_robotFor_57 rfl (lv_at hl 2 rfl) ?_
              refine ln_ge (tgt := 65) (a := n22) (b := p3.2) hx hb dX9_robotFor_58 (by decide) rfl rfl (by omega) (by omega) (fun c_28t => ?_) (fun c_28f => ?_)
              · refine lv_iconst (v := 0) hx hb dX9_robotFor_65 (by decide) ?_
                refine lv_istore (lv' := [(6, .int 0), (5, .int (nI n22)), (4, .int (nI r)), (3, .int (nI p3.2)), (2, .int (nI p3.1)), (0, .ref (ma 0)), (1, .int (nI h))]) hx hb dX9_robotFor_66 hl (by decide) rfl (fun ls hl => ?_)
                refine lv_iload hx hb dX9_robotFor_68 (lv_at hl 0 rfl) ?_
                refine lv_if_eq (tgt := 78) hx hb dX9_robotFor_70 (by decide) (fun _ => ?_) (fun c => absurd c (by decide))
                refine lv_iload_n hx hb dX9_robotFor_78 rfl (lv_at hl 4 rfl) ?_
                refine lv_istore_n (lv' := [(2, .int (nI p3.1)), (6, .int 0), (5, .int (nI n22)), (4, .int (nI r)), (3, .int (nI p3.2)), (0, .ref (ma 0)), (1, .int (nI h))]) hx hb dX9_robotFor_79 rfl hl (by decide) rfl (fun ls hl => ?_)
                refine lv_iload hx hb dX9_robotFor_80 (lv_at hl 1 rfl) ?_
                refine lv_if_eq (tgt := 90) hx hb dX9_robotFor_82 (by decide) (fun _ => ?_) (fun c => absurd c (by decide))
                refine lv_iload_n hx hb dX9_robotFor_90 rfl (lv_at hl 4 rfl) ?_
                refine lv_istore_n (lv' := [(3, .int (nI p3.2)), (2, .int (nI p3.1)), (6, .int 0), (5, .int (nI n22)), (4, .int (nI r)), (0, .ref (ma 0)), (1, .int (nI h))]) hx hb dX9_robotFor_91 rfl hl (by decide) rfl (fun ls hl => ?_)
                refine lv_iinc (v := nI (r + 1)) (lv' := [(4, .int (nI (r + 1))), (3, .int (nI p3.2)), (2, .int (nI p3.1)), (6, .int 0), (5, .int (nI n22)), (0, .ref (ma 0)), (1, .int (nI h))]) hx hb dX9_robotFor_92 hl (k := 4) rfl (nI_inc _) (by decide) rfl (fun ls hl => ?_)
                refine lv_goto (tgt := 7) hx hb dX9_robotFor_95 (by decide) ?_
                exact ih1 (r + 1) (some p3) H locs ls (by omega) ((bst_ge (p := (r, n22)) (by simp [rfF, c_2f, c_17f, hjc, hxc, hd22]) (hbb.symm.trans hq3) (show ¬ n22 < p3.2 by omega)).symm) (fun p hp => by cases hp; have := hb64 _ hq3; exact ⟨by omega, by omega⟩) hM hS (by omega) (lv_sub hl [0, 1, 2, 5, 6] rfl)
              · refine lv_iconst (v := 1) hx hb dX9_robotFor_61 (by decide) ?_
                refine lv_goto (tgt := 66) hx hb dX9_robotFor_62 (by decide) ?_
                refine lv_istore (lv' := [(6, .int 1), (5, .int (nI n22)), (4, .int (nI r)), (3, .int (nI p3.2)), (2, .int (nI p3.1)), (0, .ref (ma 0)), (1, .int (nI h))]) hx hb dX9_robotFor_66 hl (by decide) rfl (fun ls hl => ?_)
                refine lv_iload hx hb dX9_robotFor_68 (lv_at hl 0 rfl) ?_
                refine lv_if_eq (tgt := 78) hx hb dX9_robotFor_70 (by decide) (fun c => absurd c (by decide)) (fun _ => ?_)
                refine lv_iload hx hb dX9_robotFor_73 (lv_at hl 2 rfl) ?_
                refine lv_goto (tgt := 79) hx hb dX9_robotFor_75 (by decide) ?_
                refine lv_istore_n (lv' := [(2, .int (nI r)), (6, .int 1), (5, .int (nI n22)), (4, .int (nI r)), (3, .int (nI p3.2)), (0, .ref (ma 0)), (1, .int (nI h))]) hx hb dX9_robotFor_79 rfl hl (by decide) rfl (fun ls hl => ?_)
                refine lv_iload hx hb dX9_robotFor_80 (lv_at hl 1 rfl) ?_
                refine lv_if_eq (tgt := 90) hx hb dX9_robotFor_82 (by decide) (fun c => absurd c (by decide)) (fun _ => ?_)
                refine lv_iload hx hb dX9_robotFor_85 (lv_at hl 2 rfl) ?_
                refine lv_goto (tgt := 91) hx hb dX9_robotFor_87 (by decide) ?_
                refine lv_istore_n (lv' := [(3, .int (nI n22)), (2, .int (nI r)), (6, .int 1), (5, .int (nI n22)), (4, .int (nI r)), (0, .ref (ma 0)), (1, .int (nI h))]) hx hb dX9_robotFor_91 rfl hl (by decide) rfl (fun ls hl => ?_)
                refine lv_iinc (v := nI (r + 1)) (lv' := [(4, .int (nI (r + 1))), (3, .int (nI n22)), (2, .int (nI r)), (6, .int 1), (5, .int (nI n22)), (0, .ref (ma 0)), (1, .int (nI h))]) hx hb dX9_robotFor_92 hl (k := 4) rfl (nI_inc _) (by decide) rfl (fun ls hl => ?_)
                refine lv_goto (tgt := 7) hx hb dX9_robotFor_95 (by decide) ?_
                exact ih1 (r + 1) (some (r, n22)) H locs ls (by omega) ((bst_lt (by simp [rfF, c_2f, c_17f, hjc, hxc, hd22]) (hbb.symm.trans hq3) (show n22 < p3.2 by omega)).symm) (fun p hp => by cases hp; exact ⟨by omega, by omega⟩) hM hS (by omega) (lv_sub hl [0, 1, 2, 5, 6] rfl)
  exact loop1 ((nR M - 0) + 1) 0 none H locs ls (by omega) rfl (fun p hp => by cases hp) hM.none hS (by omega) (lv_sub hl [0, 1, 2, 3, 4] rfl)
set_option maxHeartbeats 4000000 in
set_option maxRecDepth 100000 in
theorem c9_sends (l : Launch) (G : gG) (ma : Nat → Nat) (M : MS) (D : mD) (sn : Nat) (k : Nat) (hI : mI ma) (hcnt : CNT M) (hsn : sn < nS M) (hk : k < 30) (hH : ∀ t, t < nT M → ∃ j, j < 64 ∧ M 7 t = nI j) (hSC : ∀ s, s < nS M → ∃ j, j < 64 ∧ M 5 s = nI j) (hVC : ∀ r, r < nR M → ∃ j, j < 64 ∧ M 18 r = nI j) : Met l yX9_sends (wB yX9_sends cX9_sends 5 (some .boolean)) (rmL 5 0 0) (va_Pc [.ref (ma 0), .int (nI sn), .int (nI k)] (mB G ma M D)) (mQi G ma none (fun r M' => r = bI (sndF M sn k).isSome ∧ M' = (sndF M sn k).getD M)) 0 0 (mA ma) := by
  refine st_N (own := RX9) (by decide +kernel) rfl (Nat.le_of_ble_eq_true rfl) ?_
  intro p e s m below meth c ls args Q hQ hC hr hlk hnm hl hP
  obtain ⟨hM, hK⟩ := hP
  have hx := hC.1
  have hb := hC.2.1
  have hl : lv_has ls 5 [(0, .ref (ma 0)), (1, .int (nI sn)), (2, .int (nI k))] := hl
  have hS : va_S (mA ma) s.heap s.heap [] := va_S.rf
  obtain ⟨H, locs, hHe, hLe⟩ : ∃ (H : Heap) (locs : List Loc), H = s.heap ∧ locs = [] := ⟨_, _, rfl, rfl⟩
  rw [← hHe] at hM
  have hS : va_S (mA ma) s.heap H locs := by rw [hHe, hLe]; exact va_S.rf
  suffices hgo : W p l e (rmL 5 0 0) s m args below meth c H locs 0 0 Q (F0 m 0 ls []) by
    rw [hHe, hLe] at hgo
    exact hgo
  clear hHe hLe
  have h6 := hcnt.R6
  have h3 := hcnt.S3
  have h16 := hcnt.T16
  have h10 := hcnt.O10
  refine lv_aload_n hx hb dX9_sends_0 rfl (lv_at hl 0 rfl) ?_
  refine lv_iload_n hx hb dX9_sends_1 rfl (lv_at hl 1 rfl) ?_
  refine lv_iload_n hx hb dX9_sends_2 rfl (lv_at hl 2 rfl) ?_
  refine mcl_i (run_V hC (c9_trayFor l G ma M D sn k hI hcnt (by omega) (by omega) hH hSC) (As := [.int (nI sn), .int (nI k)]) (rest := []) rfl rfl ml_X9_174 im_X9_trayFor se_X9_trayFor ini_X9 cd_X9_trayFor ⟨rfl, na_X9_trayFor⟩ mB_blind (mr_recv hK hM) (mr_B hK hM) hl.1 (Nat.le_of_ble_eq_true rfl) ⟨Nat.le_of_ble_eq_true rfl, Nat.le_of_ble_eq_true rfl⟩ ⟨Nat.le_refl _, Nat.le_refl _⟩ rfl dX9_sends_3) hS (fun _ h => h) (fun r1 M1 H locs hp1 hM hS => ?_)
  obtain ⟨hr1, hm1⟩ := hp1
  rw [hm1] at hM
  refine top_i (y := oI ((trayB M sn k).map (fun q => q.1))) hr1 ?_
  rcases hb2 : trayB M sn k with _ | p2
  · refine top_i (y := -1) rfl ?_
    refine lv_istore_n (lv' := [(3, .int (-1)), (0, .ref (ma 0)), (1, .int (nI sn)), (2, .int (nI k))]) hx hb dX9_sends_6 rfl hl (by decide) rfl (fun ls hl => ?_)
    refine lv_iload_n hx hb dX9_sends_7 rfl (lv_at hl 0 rfl) ?_
    refine lv_iconst (v := (-1)) hx hb dX9_sends_8 (by decide) ?_
    refine lv_icmp_ne (tgt := 16) hx hb dX9_sends_9 (by decide) (fun c => absurd c (by decide)) (fun _ => ?_)
    refine lv_iconst (v := (-1)) hx hb dX9_sends_12 (by decide) ?_
    refine lv_goto (tgt := 26) hx hb dX9_sends_13 (by decide) ?_
    refine lv_istore (lv' := [(4, .int (-1)), (3, .int (-1)), (0, .ref (ma 0)), (1, .int (nI sn)), (2, .int (nI k))]) hx hb dX9_sends_26 hl (by decide) rfl (fun ls hl => ?_)
    refine lv_iload hx hb dX9_sends_28 (lv_at hl 0 rfl) ?_
    refine lv_iconst (v := (-1)) hx hb dX9_sends_30 (by decide) ?_
    refine lv_icmp_eq (tgt := 57) hx hb dX9_sends_31 (by decide) (fun _ => ?_) (fun c => absurd c (by decide))
    refine lv_iload hx hb dX9_sends_57 (lv_at hl 0 rfl) ?_
    refine lv_iconst (v := (-1)) hx hb dX9_sends_59 (by decide) ?_
    refine lv_icmp_eq (tgt := 67) hx hb dX9_sends_60 (by decide) (fun _ => ?_) (fun c => absurd c (by decide))
    refine lv_iconst (v := 0) hx hb dX9_sends_67 (by decide) ?_
    subst hQ
    exact rt_mz false hx hb hr hlk hM.none hS rfl  (by simp [sndF, bI, hb2]) dX9_sends_68
  · refine top_i (y := nI p2.1) rfl ?_
    have hlt_p := (trayB_lt hb2).1
    obtain ⟨jh, hjh64, hjh⟩ := hH p2.1 (by omega)
    have hxh := ix_nI (n := jh) (by omega)
    refine lv_istore_n (lv' := [(3, .int (nI p2.1)), (0, .ref (ma 0)), (1, .int (nI sn)), (2, .int (nI k))]) hx hb dX9_sends_6 rfl hl (by decide) rfl (fun ls hl => ?_)
    refine lv_iload_n hx hb dX9_sends_7 rfl (lv_at hl 0 rfl) ?_
    refine lv_iconst (v := (-1)) hx hb dX9_sends_8 (by decide) ?_
    refine lv_icmp_ne (tgt := 16) hx hb dX9_sends_9 (by decide) (fun _ => ?_) (fun c => absurd c (nI_m1 (by omega)))
    refine lv_aload_n hx hb dX9_sends_16 rfl (lv_at hl 1 rfl) ?_
    refine lv_aload_n hx hb dX9_sends_17 rfl (lv_at hl 1 rfl) ?_
    refine ms_get hC hK hM 7 (by decide) fl_X9_20 rfl (v := .ref (ma 7)) rfl (fun q => rfl) dX9_sends_18 ?_
    refine lv_iload_n hx hb dX9_sends_21 rfl (lv_at hl 0 rfl) ?_
    refine ms_ild hC hK hM 7 (i := p2.1) (show p2.1 < 16 from by omega) (by decide) rfl rfl (v := nI jh) hjh dX9_sends_22 ?_
    refine mcl_i (run_V hC (c9_robotFor l G ma M none jh hI hcnt (by omega) hVC) (As := [.int (nI jh)]) (rest := []) rfl rfl ml_X9_177 im_X9_robotFor se_X9_robotFor ini_X9 cd_X9_robotFor ⟨rfl, na_X9_robotFor⟩ mB_blind (mr_recv hK hM) (mr_B hK hM) hl.1 (Nat.le_of_ble_eq_true rfl) ⟨Nat.le_of_ble_eq_true rfl, Nat.le_of_ble_eq_true rfl⟩ ⟨Nat.le_refl _, Nat.le_refl _⟩ rfl dX9_sends_23) hS (fun _ h => h) (fun r7 M7 H locs hp7 hM hS => ?_)
    obtain ⟨hr7, hm7⟩ := hp7
    rw [hm7] at hM
    refine top_i (y := oI ((robB M jh).map (fun q => q.1))) hr7 ?_
    rcases hb8 : robB M jh with _ | p8
    · refine top_i (y := -1) rfl ?_
      refine lv_istore (lv' := [(4, .int (-1)), (3, .int (nI p2.1)), (0, .ref (ma 0)), (1, .int (nI sn)), (2, .int (nI k))]) hx hb dX9_sends_26 hl (by decide) rfl (fun ls hl => ?_)
      refine lv_iload hx hb dX9_sends_28 (lv_at hl 0 rfl) ?_
      refine lv_iconst (v := (-1)) hx hb dX9_sends_30 (by decide) ?_
      refine lv_icmp_eq (tgt := 57) hx hb dX9_sends_31 (by decide) (fun _ => ?_) (fun c => absurd c (by decide))
      refine lv_iload hx hb dX9_sends_57 (lv_at hl 0 rfl) ?_
      refine lv_iconst (v := (-1)) hx hb dX9_sends_59 (by decide) ?_
      refine lv_icmp_eq (tgt := 67) hx hb dX9_sends_60 (by decide) (fun _ => ?_) (fun c => absurd c (by decide))
      refine lv_iconst (v := 0) hx hb dX9_sends_67 (by decide) ?_
      subst hQ
      exact rt_mz false hx hb hr hlk hM.none hS rfl  (by simp [sndF, bI, hb2, hjh, hxh, hb8]) dX9_sends_68
    · refine top_i (y := nI p8.1) rfl ?_
      have hlt_q := (robB_lt hb8).1
      refine lv_istore (lv' := [(4, .int (nI p8.1)), (3, .int (nI p2.1)), (0, .ref (ma 0)), (1, .int (nI sn)), (2, .int (nI k))]) hx hb dX9_sends_26 hl (by decide) rfl (fun ls hl => ?_)
      refine lv_iload hx hb dX9_sends_28 (lv_at hl 0 rfl) ?_
      refine lv_iconst (v := (-1)) hx hb dX9_sends_30 (by decide) ?_
      refine lv_icmp_eq (tgt := 57) hx hb dX9_sends_31 (by decide) (fun c => absurd c (nI_m1 (by omega))) (fun _ => ?_)
      refine lv_aload_n hx hb dX9_sends_34 rfl (lv_at hl 2 rfl) ?_
      refine ms_get hC hK hM 22 (by decide) fl_X9_56 rfl (v := .ref (ma 22)) rfl (fun q => rfl) dX9_sends_35 ?_
      refine lv_iload hx hb dX9_sends_38 (lv_at hl 0 rfl) ?_
      refine lv_iload_n hx hb dX9_sends_40 rfl (lv_at hl 4 rfl) ?_
      refine ms_ist hC hK hI hM hS 22 (mA_k (by decide)) (i := p8.1) (show p8.1 < 6 from by omega) rfl rfl dX9_sends_41 (fun H locs hM hS => ?_)
      refine lv_aload_n hx hb dX9_sends_42 rfl (lv_at hl 2 rfl) ?_
      refine ms_get hC hK hM 21 (by decide) fl_X9_53 rfl (v := .ref (ma 21)) rfl (fun q => rfl) dX9_sends_43 ?_
      refine lv_iload hx hb dX9_sends_46 (lv_at hl 0 rfl) ?_
      refine lv_iload_n hx hb dX9_sends_48 rfl (lv_at hl 1 rfl) ?_
      refine ms_ist hC hK hI hM hS 21 (mA_k (by decide)) (i := p8.1) (show p8.1 < 6 from by omega) rfl rfl dX9_sends_49 (fun H locs hM hS => ?_)
      refine lv_aload_n hx hb dX9_sends_50 rfl (lv_at hl 2 rfl) ?_
      refine lv_iload hx hb dX9_sends_51 (lv_at hl 0 rfl) ?_
      refine lv_iconst (v := 1) hx hb dX9_sends_53 (by decide) ?_
      refine mcl_v (run_V hC (c9_becomes l G ma (mset (mset M 22 p8.1 (nI k)) 21 p8.1 (nI p2.1)) none p8.1 1 hI (by omega)) (As := [.int (nI p8.1), .int 1]) (rest := []) rfl rfl ml_X9_162 im_X9_becomes se_X9_becomes ini_X9 cd_X9_becomes ⟨rfl, na_X9_becomes⟩ mB_blind (mr_recv hK hM) (mr_B hK hM) hl.1 (Nat.le_of_ble_eq_true rfl) ⟨Nat.le_of_ble_eq_true rfl, Nat.le_of_ble_eq_true rfl⟩ ⟨Nat.le_refl _, Nat.le_refl _⟩ rfl dX9_sends_54) hS (fun _ h => h) (fun M12 H locs hp12 hM hS => ?_)
      rw [hp12] at hM
      refine lv_iload hx hb dX9_sends_57 (lv_at hl 0 rfl) ?_
      refine lv_iconst (v := (-1)) hx hb dX9_sends_59 (by decide) ?_
      refine lv_icmp_eq (tgt := 67) hx hb dX9_sends_60 (by decide) (fun c => absurd c (nI_m1 (by omega))) (fun _ => ?_)
      refine lv_iconst (v := 1) hx hb dX9_sends_63 (by decide) ?_
      refine lv_goto (tgt := 68) hx hb dX9_sends_64 (by decide) ?_
      subst hQ
      exact rt_mz true hx hb hr hlk hM.none hS rfl  (by simp [sndF, bI, hb2, hjh, hxh, hb8]) dX9_sends_68
set_option maxHeartbeats 4000000 in
set_option maxRecDepth 100000 in
theorem c9_serves (l : Launch) (G : gG) (ma : Nat → Nat) (M : MS) (D : mD) (sn : Nat) (hI : mI ma) (hcnt : CNT M) (hsn : sn < nS M) (hW : ∀ r, r < nR M → M 22 r = -1 ∨ ∃ k, k < 30 ∧ M 22 r = nI k) (hH : ∀ t, t < nT M → ∃ j, j < 64 ∧ M 7 t = nI j) (hSC : ∀ s, s < nS M → ∃ j, j < 64 ∧ M 5 s = nI j) (hVC : ∀ r, r < nR M → ∃ j, j < 64 ∧ M 18 r = nI j) : Met l yX9_serves (wB yX9_serves cX9_serves 7 none) (rmL 6 0 0) (va_Pc [.ref (ma 0), .int (nI sn)] (mB G ma M D)) (mQv G ma none (fun M' => M' = srvF M sn)) 0 0 (mA ma) := by
  refine st_N (own := RX9) (by decide +kernel) rfl (Nat.le_of_ble_eq_true rfl) ?_
  intro p e s m below meth c ls args Q hQ hC hr hlk hnm hl hP
  obtain ⟨hM, hK⟩ := hP
  have hx := hC.1
  have hb := hC.2.1
  have hl : lv_has ls 7 [(0, .ref (ma 0)), (1, .int (nI sn))] := hl
  have hS : va_S (mA ma) s.heap s.heap [] := va_S.rf
  obtain ⟨H, locs, hHe, hLe⟩ : ∃ (H : Heap) (locs : List Loc), H = s.heap ∧ locs = [] := ⟨_, _, rfl, rfl⟩
  rw [← hHe] at hM
  have hS : va_S (mA ma) s.heap H locs := by rw [hHe, hLe]; exact va_S.rf
  suffices hgo : W p l e (rmL 6 0 0) s m args below meth c H locs 0 0 Q (F0 m 0 ls []) by
    rw [hHe, hLe] at hgo
    exact hgo
  clear hHe hLe
  have h6 := hcnt.R6
  have h3 := hcnt.S3
  have h16 := hcnt.T16
  have h10 := hcnt.O10
  refine lv_aload_n hx hb dX9_serves_0 rfl (lv_at hl 0 rfl) ?_
  refine lv_iload_n hx hb dX9_serves_1 rfl (lv_at hl 1 rfl) ?_
  refine cl_p (run_V hC (c9_hasRobot l G ma M D (nI sn) hcnt hW) (As := [.int (nI sn)]) (rest := []) rfl rfl ml_X9_180 im_X9_hasRobot se_X9_hasRobot ini_X9 cd_X9_hasRobot ⟨rfl, na_X9_hasRobot⟩ mB_blind (mr_recv hK hM) (mr_B hK hM) hl.1 (Nat.le_of_ble_eq_true rfl) ⟨Nat.le_of_ble_eq_true rfl, Nat.le_of_ble_eq_true rfl⟩ ⟨Nat.le_refl _, Nat.le_refl _⟩ rfl dX9_serves_2) ?_
  refine lv_istore_n (lv' := [(2, .int (bI (hasB M (nI sn)))), (0, .ref (ma 0)), (1, .int (nI sn))]) hx hb dX9_serves_5 rfl hl (by decide) rfl (fun ls hl => ?_)
  refine lv_iconst (v := 0) hx hb dX9_serves_6 (by decide) ?_
  refine lv_istore_n (lv' := [(3, .int 0), (2, .int (bI (hasB M (nI sn)))), (0, .ref (ma 0)), (1, .int (nI sn))]) hx hb dX9_serves_7 rfl hl (by decide) rfl (fun ls hl => ?_)
  refine lv_iconst (v := 0) hx hb dX9_serves_8 (by decide) ?_
  refine lv_istore (lv' := [(4, .int 0), (3, .int 0), (2, .int (bI (hasB M (nI sn)))), (0, .ref (ma 0)), (1, .int (nI sn))]) hx hb dX9_serves_9 hl (by decide) rfl (fun ls hl => ?_)
  rcases hh1 : hasB M (nI sn) with _ | _
  · have hl : lv_has ls 7 [(4, .int 0), (3, .int 0), (2, .int 0), (0, .ref (ma 0)), (1, .int (nI sn))] := by rw [hh1] at hl; exact hl
    have hM := hM.none
    have loop2 : ∀ (n : Nat) (af : Int32) (ln : Nat) (f : Nat) (H : Heap) (locs : List Loc) (ls : Array Slot) (hf : remN M (nI sn) af < f) (hres : srvF M sn = srvW sn f M af) (hln : ln < 30) (hM : WS G ma M none H) (hS : va_S (mA ma) s.heap H locs), remN M (nI sn) af < n → lv_has ls 7 [(2, .int 0), (3, .int af), (4, .int (nI ln)), (0, .ref (ma 0)), (1, .int (nI sn))] → W p l e (rmL 6 0 0) s m args below meth c H locs 0 0 Q (F0 m 11 ls []) := by
      intro n
      induction n with
      | zero => intro af ln f H locs ls hf hres hln hM hS hm hl; omega
      | succ n ih2 =>
        intro af ln f H locs ls hf hres hln hM hS hm hl
        obtain ⟨f9, rfl⟩ : ∃ f9, f = f9 + 1 := ⟨f - 1, by omega⟩
        refine lv_iload_n hx hb dX9_serves_11 rfl (lv_at hl 0 rfl) ?_
        refine lv_if_ne (tgt := 174) hx hb dX9_serves_12 (by decide) (fun c => absurd c (by decide)) (fun _ => ?_)
        refine lv_iload hx hb dX9_serves_15 (lv_at hl 2 rfl) ?_
        refine lv_iconst (v := (-1)) hx hb dX9_serves_17 (by decide) ?_
        refine lv_icmp_eq (tgt := 174) hx hb dX9_serves_18 (by decide) (fun c => absurd c (nI_m1 (by omega))) (fun _ => ?_)
        refine lv_iconst (v := (-1)) hx hb dX9_serves_21 (by decide) ?_
        refine lv_istore (lv' := [(4, .int (-1)), (2, .int 0), (3, .int af), (0, .ref (ma 0)), (1, .int (nI sn))]) hx hb dX9_serves_22 hl (by decide) rfl (fun ls hl => ?_)
        refine lv_iconst (v := 0) hx hb dX9_serves_24 (by decide) ?_
        refine lv_istore (lv' := [(5, .int 0), (4, .int (-1)), (2, .int 0), (3, .int af), (0, .ref (ma 0)), (1, .int (nI sn))]) hx hb dX9_serves_25 hl (by decide) rfl (fun ls hl => ?_)
        have loop5 : ∀ (n : Nat) (k : Nat) (b : Option Nat) (H : Heap) (locs : List Loc) (ls : Array Slot) (hk : k ≤ 30) (hbb : b = nlGo M (nI sn) af k) (hb30 : ∀ j, b = some j → j < k) (hM : WS G ma M none H) (hS : va_S (mA ma) s.heap H locs), 30 - k < n → lv_has ls 7 [(5, .int (nI k)), (4, .int (oI b)), (2, .int 0), (3, .int af), (0, .ref (ma 0)), (1, .int (nI sn))] → W p l e (rmL 6 0 0) s m args below meth c H locs 0 0 Q (F0 m 27 ls []) := by
          intro n
          induction n with
          | zero => intro k b H locs ls hk hbb hb30 hM hS hm hl; omega
          | succ n ih5 =>
            intro k b H locs ls hk hbb hb30 hM hS hm hl
            refine lv_iload hx hb dX9_serves_27 (lv_at hl 0 rfl) ?_
            refine lv_bipush (v := 30) hx hb dX9_serves_29 (by decide) ?_
            refine ln_ge (tgt := 121) (a := k) (b := 30) hx hb dX9_serves_31 (by decide) rfl rfl (by omega) (by omega) (fun c_6t => ?_) (fun c_6f => ?_)
            · have hbb30 : b = nlGo M (nI sn) af 30 := by rw [hbb, show k = 30 by omega]
              have hk300 : k = 30 := by omega
              rcases hq7 : b with _ | k7
              · have hl : lv_has ls 7 [(5, .int (nI k)), (4, .int (-1)), (2, .int 0), (3, .int af), (0, .ref (ma 0)), (1, .int (nI sn))] := by rw [hq7] at hl; exact hl
                have hn7 := hbb30.symm.trans hq7
                refine lv_iload hx hb dX9_serves_121 (lv_at hl 1 rfl) ?_
                refine lv_iconst (v := (-1)) hx hb dX9_serves_123 (by decide) ?_
                refine lv_icmp_ne (tgt := 131) hx hb dX9_serves_124 (by decide) (fun c => absurd c (by decide)) (fun _ => ?_)
                refine lv_iload_n hx hb dX9_serves_127 rfl (lv_at hl 3 rfl) ?_
                refine lv_goto (tgt := 138) hx hb dX9_serves_128 (by decide) ?_
                refine lv_istore_n (lv' := [(3, .int af), (5, .int (nI k)), (4, .int (-1)), (2, .int 0), (0, .ref (ma 0)), (1, .int (nI sn))]) hx hb dX9_serves_138 rfl hl (by decide) rfl (fun ls hl => ?_)
                refine lv_iload hx hb dX9_serves_139 (lv_at hl 2 rfl) ?_
                refine lv_iconst (v := (-1)) hx hb dX9_serves_141 (by decide) ?_
                refine lv_icmp_eq (tgt := 169) hx hb dX9_serves_142 (by decide) (fun _ => ?_) (fun c => absurd c (by decide))
                refine lv_iconst (v := 0) hx hb dX9_serves_169 (by decide) ?_
                refine lv_istore_n (lv' := [(2, .int 0), (3, .int af), (5, .int (nI k)), (4, .int (-1)), (0, .ref (ma 0)), (1, .int (nI sn))]) hx hb dX9_serves_170 rfl hl (by decide) rfl (fun ls hl => ?_)
                refine lv_goto (tgt := 11) hx hb dX9_serves_171 (by decide) ?_
                refine lv_iload_n hx hb dX9_serves_11 rfl (lv_at hl 0 rfl) ?_
                refine lv_if_ne (tgt := 174) hx hb dX9_serves_12 (by decide) (fun c => absurd c (by decide)) (fun _ => ?_)
                refine lv_iload hx hb dX9_serves_15 (lv_at hl 3 rfl) ?_
                refine lv_iconst (v := (-1)) hx hb dX9_serves_17 (by decide) ?_
                refine lv_icmp_eq (tgt := 174) hx hb dX9_serves_18 (by decide) (fun _ => ?_) (fun c => absurd c (by decide))
                subst hQ
                exact rt_mv hx hb hr hlk hM.none hS  ((hres.trans (srvW_none hn7)).symm) dX9_serves_174
              · have hl : lv_has ls 7 [(5, .int (nI k)), (4, .int (nI k7)), (2, .int 0), (3, .int af), (0, .ref (ma 0)), (1, .int (nI sn))] := by rw [hq7] at hl; exact hl
                have hn7 := hbb30.symm.trans hq7
                have hk30 := hb30 _ hq7
                refine lv_iload hx hb dX9_serves_121 (lv_at hl 1 rfl) ?_
                refine lv_iconst (v := (-1)) hx hb dX9_serves_123 (by decide) ?_
                refine lv_icmp_ne (tgt := 131) hx hb dX9_serves_124 (by decide) (fun _ => ?_) (fun c => absurd c (nI_m1 (by omega)))
                refine lv_aload_n hx hb dX9_serves_131 rfl (lv_at hl 4 rfl) ?_
                refine ms_get hC hK hM 15 (by decide) fl_X9_41 rfl (v := .ref (ma 15)) rfl (fun q => rfl) dX9_serves_132 ?_
                refine lv_iload hx hb dX9_serves_135 (lv_at hl 1 rfl) ?_
                refine ms_ild hC hK hM 15 (i := k7) (show k7 < 30 from by omega) (by decide) rfl rfl (v := M 15 k7) rfl dX9_serves_137 ?_
                refine lv_istore_n (lv' := [(3, .int (M 15 k7)), (5, .int (nI k)), (4, .int (nI k7)), (2, .int 0), (0, .ref (ma 0)), (1, .int (nI sn))]) hx hb dX9_serves_138 rfl hl (by decide) rfl (fun ls hl => ?_)
                refine lv_iload hx hb dX9_serves_139 (lv_at hl 2 rfl) ?_
                refine lv_iconst (v := (-1)) hx hb dX9_serves_141 (by decide) ?_
                refine lv_icmp_eq (tgt := 169) hx hb dX9_serves_142 (by decide) (fun c => absurd c (nI_m1 (by omega))) (fun _ => ?_)
                refine lv_aload_n hx hb dX9_serves_145 rfl (lv_at hl 4 rfl) ?_
                refine ms_get hC hK hM 13 (by decide) fl_X9_35 rfl (v := .ref (ma 13)) rfl (fun q => rfl) dX9_serves_146 ?_
                refine lv_iload hx hb dX9_serves_149 (lv_at hl 2 rfl) ?_
                refine ms_ild hC hK hM 13 (i := k7) (show k7 < 30 from by omega) (by decide) rfl rfl (v := M 13 k7) rfl dX9_serves_151 ?_
                refine lv_if_le (tgt := 169) hx hb dX9_serves_152 (by decide) (fun c_14t => ?_) (fun c_14f => ?_)
                · have hrem_ := remN_lt (nlGo_in hn7).1 (nlGo_in hn7).2
                  refine lv_iconst (v := 0) hx hb dX9_serves_169 (by decide) ?_
                  refine lv_istore_n (lv' := [(2, .int 0), (3, .int (M 15 k7)), (5, .int (nI k)), (4, .int (nI k7)), (0, .ref (ma 0)), (1, .int (nI sn))]) hx hb dX9_serves_170 rfl hl (by decide) rfl (fun ls hl => ?_)
                  refine lv_goto (tgt := 11) hx hb dX9_serves_171 (by decide) ?_
                  exact ih2 (M 15 k7) k7 f9 H locs ls (by have := remN_lt (nlGo_in hn7).1 (nlGo_in hn7).2; omega) (hres.trans (srvW_skip hn7 c_14t)) ((nlGo_in hn7).1) hM hS (by omega) (lv_sub hl [0, 1, 3, 4, 5] rfl)
                · refine lv_aload_n hx hb dX9_serves_155 rfl (lv_at hl 4 rfl) ?_
                  refine lv_iload_n hx hb dX9_serves_156 rfl (lv_at hl 5 rfl) ?_
                  refine lv_iload hx hb dX9_serves_157 (lv_at hl 2 rfl) ?_
                  refine mcl_i (run_V hC (c9_sends l G ma M none sn k7 hI hcnt (by omega) (by omega) hH hSC hVC) (As := [.int (nI sn), .int (nI k7)]) (rest := []) rfl rfl ml_X9_183 im_X9_sends se_X9_sends ini_X9 cd_X9_sends ⟨rfl, na_X9_sends⟩ mB_blind (mr_recv hK hM) (mr_B hK hM) hl.1 (Nat.le_of_ble_eq_true rfl) ⟨Nat.le_of_ble_eq_true rfl, Nat.le_of_ble_eq_true rfl⟩ ⟨Nat.le_refl _, Nat.le_refl _⟩ rfl dX9_serves_159) hS (fun _ h => h) (fun r15 M15 H locs hp15 hM hS => ?_)
                  obtain ⟨hr15, hm15⟩ := hp15
                  rw [hm15] at hM
                  refine top_i hr15 ?_
                  rcases hs15 : sndF M sn k7 with _ | M8
                  · refine top_i (y := 0) rfl ?_
                    have hM : WS G ma M none H := by rw [hs15] at hM; exact hM
                    refine lv_if_eq (tgt := 169) hx hb dX9_serves_162 (by decide) (fun _ => ?_) (fun c => absurd c (by decide))
                    have hrem_ := remN_lt (nlGo_in hn7).1 (nlGo_in hn7).2
                    refine lv_iconst (v := 0) hx hb dX9_serves_169 (by decide) ?_
                    refine lv_istore_n (lv' := [(2, .int 0), (3, .int (M 15 k7)), (5, .int (nI k)), (4, .int (nI k7)), (0, .ref (ma 0)), (1, .int (nI sn))]) hx hb dX9_serves_170 rfl hl (by decide) rfl (fun ls hl => ?_)
                    refine lv_goto (tgt := 11) hx hb dX9_serves_171 (by decide) ?_
                    exact ih2 (M 15 k7) k7 f9 H locs ls (by have := remN_lt (nlGo_in hn7).1 (nlGo_in hn7).2; omega) (hres.trans (srvW_no hn7 c_14f hs15)) ((nlGo_in hn7).1) hM hS (by omega) (lv_sub hl [0, 1, 3, 4, 5] rfl)
                  · refine top_i (y := 1) rfl ?_
                    have hM : WS G ma M8 none H := by rw [hs15] at hM; exact hM
                    refine lv_if_eq (tgt := 169) hx hb dX9_serves_162 (by decide) (fun c => absurd c (by decide)) (fun _ => ?_)
                    refine lv_iconst (v := 1) hx hb dX9_serves_165 (by decide) ?_
                    refine lv_goto (tgt := 170) hx hb dX9_serves_166 (by decide) ?_
                    refine lv_istore_n (lv' := [(2, .int 1), (3, .int (M 15 k7)), (5, .int (nI k)), (4, .int (nI k7)), (0, .ref (ma 0)), (1, .int (nI sn))]) hx hb dX9_serves_170 rfl hl (by decide) rfl (fun ls hl => ?_)
                    refine lv_goto (tgt := 11) hx hb dX9_serves_171 (by decide) ?_
                    refine lv_iload_n hx hb dX9_serves_11 rfl (lv_at hl 0 rfl) ?_
                    refine lv_if_ne (tgt := 174) hx hb dX9_serves_12 (by decide) (fun _ => ?_) (fun c => absurd c (by decide))
                    subst hQ
                    exact rt_mv hx hb hr hlk hM.none hS  ((hres.trans (srvW_yes hn7 c_14f hs15)).symm) dX9_serves_174
            · rcases hq19 : b with _ | p19
              · have hl : lv_has ls 7 [(5, .int (nI k)), (4, .int (-1)), (2, .int 0), (3, .int af), (0, .ref (ma 0)), (1, .int (nI sn))] := by rw [hq19] at hl; exact hl
                refine lv_aload_n hx hb dX9_serves_34 rfl (lv_at hl 4 rfl) ?_
                refine lv_iload hx hb dX9_serves_35 (lv_at hl 0 rfl) ?_
                refine lv_iconst (v := 3) hx hb dX9_serves_37 (by decide) ?_
                refine lv_idiv hx hb dX9_serves_38 (by decide) ?_
                refine top_i (y := nI (k / 3)) (pk_div (a := k) (d := 3) (by omega) (by decide) (by decide)) ?_
                refine lv_iload hx hb dX9_serves_39 (lv_at hl 0 rfl) ?_
                refine lv_iconst (v := 3) hx hb dX9_serves_41 (by decide) ?_
                refine lv_irem hx hb dX9_serves_42 (by decide) ?_
                refine top_i (y := nI (k % 3)) (pk_rem (a := k) (d := 3) (by omega) (by decide) (by decide)) ?_
                refine cl_pi (x := bI (VL M k)) (run_V hC (c9_isLine l G ma M none (nI (k / 3)) (nI (k % 3)) hcnt) (As := [.int (nI (k / 3)), .int (nI (k % 3))]) (rest := []) rfl rfl ml_X9_156 im_X9_isLine se_X9_isLine ini_X9 cd_X9_isLine ⟨rfl, na_X9_isLine⟩ mB_blind (mr_recv hK hM) (mr_B hK hM) hl.1 (Nat.le_of_ble_eq_true rfl) ⟨Nat.le_of_ble_eq_true rfl, Nat.le_of_ble_eq_true rfl⟩ ⟨Nat.le_refl _, Nat.le_refl _⟩ rfl dX9_serves_43) (congrArg bI (lnB_VL hcnt (by omega))) ?_
                refine lb_eq (tgt := 75) (b := (VL M k)) hx hb dX9_serves_46 (by decide) (fun c_20t => ?_) (fun c_20f => ?_)
                · refine lv_iconst (v := 0) hx hb dX9_serves_75 (by decide) ?_
                  refine lv_istore (lv' := [(6, .int 0), (5, .int (nI k)), (4, .int (-1)), (2, .int 0), (3, .int af), (0, .ref (ma 0)), (1, .int (nI sn))]) hx hb dX9_serves_76 hl (by decide) rfl (fun ls hl => ?_)
                  refine lv_iload hx hb dX9_serves_78 (lv_at hl 0 rfl) ?_
                  refine lv_if_eq (tgt := 111) hx hb dX9_serves_80 (by decide) (fun _ => ?_) (fun c => absurd c (by decide))
                  refine lv_iload hx hb dX9_serves_111 (lv_at hl 2 rfl) ?_
                  refine lv_istore (lv' := [(4, .int (-1)), (6, .int 0), (5, .int (nI k)), (2, .int 0), (3, .int af), (0, .ref (ma 0)), (1, .int (nI sn))]) hx hb dX9_serves_113 hl (by decide) rfl (fun ls hl => ?_)
                  refine lv_iinc (v := nI (k + 1)) (lv' := [(5, .int (nI (k + 1))), (4, .int (-1)), (6, .int 0), (2, .int 0), (3, .int af), (0, .ref (ma 0)), (1, .int (nI sn))]) hx hb dX9_serves_115 hl (k := 2) rfl (nI_inc _) (by decide) rfl (fun ls hl => ?_)
                  refine lv_goto (tgt := 27) hx hb dX9_serves_118 (by decide) ?_
                  exact ih5 (k + 1) none H locs ls (by omega) (hq19.symm.trans (hbb.trans (nlGo_f (by simp [cndL, c_6f, c_20t])).symm)) (fun j hj => by cases hj) hM hS (by omega) (lv_sub hl [0, 1, 3, 4, 5, 6] rfl)
                · refine lv_aload_n hx hb dX9_serves_49 rfl (lv_at hl 4 rfl) ?_
                  refine ms_get hC hK hM 14 (by decide) fl_X9_38 rfl (v := .ref (ma 14)) rfl (fun q => rfl) dX9_serves_50 ?_
                  refine lv_iload hx hb dX9_serves_53 (lv_at hl 0 rfl) ?_
                  refine ms_ild hC hK hM 14 (i := k) (show k < 30 from by omega) (by decide) rfl rfl (v := M 14 k) rfl dX9_serves_55 ?_
                  refine lv_iload_n hx hb dX9_serves_56 rfl (lv_at hl 5 rfl) ?_
                  refine lv_icmp_ne (tgt := 75) hx hb dX9_serves_57 (by decide) (fun c_22t => ?_) (fun c_22f => ?_)
                  · refine lv_iconst (v := 0) hx hb dX9_serves_75 (by decide) ?_
                    refine lv_istore (lv' := [(6, .int 0), (5, .int (nI k)), (4, .int (-1)), (2, .int 0), (3, .int af), (0, .ref (ma 0)), (1, .int (nI sn))]) hx hb dX9_serves_76 hl (by decide) rfl (fun ls hl => ?_)
                    refine lv_iload hx hb dX9_serves_78 (lv_at hl 0 rfl) ?_
                    refine lv_if_eq (tgt := 111) hx hb dX9_serves_80 (by decide) (fun _ => ?_) (fun c => absurd c (by decide))
                    refine lv_iload hx hb dX9_serves_111 (lv_at hl 2 rfl) ?_
                    refine lv_istore (lv' := [(4, .int (-1)), (6, .int 0), (5, .int (nI k)), (2, .int 0), (3, .int af), (0, .ref (ma 0)), (1, .int (nI sn))]) hx hb dX9_serves_113 hl (by decide) rfl (fun ls hl => ?_)
                    refine lv_iinc (v := nI (k + 1)) (lv' := [(5, .int (nI (k + 1))), (4, .int (-1)), (6, .int 0), (2, .int 0), (3, .int af), (0, .ref (ma 0)), (1, .int (nI sn))]) hx hb dX9_serves_115 hl (k := 2) rfl (nI_inc _) (by decide) rfl (fun ls hl => ?_)
                    refine lv_goto (tgt := 27) hx hb dX9_serves_118 (by decide) ?_
                    exact ih5 (k + 1) none H locs ls (by omega) (hq19.symm.trans (hbb.trans (nlGo_f (by simp [cndL, c_6f, c_20f, c_22t])).symm)) (fun j hj => by cases hj) hM hS (by omega) (lv_sub hl [0, 1, 3, 4, 5, 6] rfl)
                  · refine lv_aload_n hx hb dX9_serves_60 rfl (lv_at hl 4 rfl) ?_
                    refine ms_get hC hK hM 15 (by decide) fl_X9_41 rfl (v := .ref (ma 15)) rfl (fun q => rfl) dX9_serves_61 ?_
                    refine lv_iload hx hb dX9_serves_64 (lv_at hl 0 rfl) ?_
                    refine ms_ild hC hK hM 15 (i := k) (show k < 30 from by omega) (by decide) rfl rfl (v := M 15 k) rfl dX9_serves_66 ?_
                    refine lv_iload_n hx hb dX9_serves_67 rfl (lv_at hl 3 rfl) ?_
                    refine lv_icmp_le (tgt := 75) hx hb dX9_serves_68 (by decide) (fun c_24t => ?_) (fun c_24f => ?_)
                    · refine lv_iconst (v := 0) hx hb dX9_serves_75 (by decide) ?_
                      refine lv_istore (lv' := [(6, .int 0), (5, .int (nI k)), (4, .int (-1)), (2, .int 0), (3, .int af), (0, .ref (ma 0)), (1, .int (nI sn))]) hx hb dX9_serves_76 hl (by decide) rfl (fun ls hl => ?_)
                      refine lv_iload hx hb dX9_serves_78 (lv_at hl 0 rfl) ?_
                      refine lv_if_eq (tgt := 111) hx hb dX9_serves_80 (by decide) (fun _ => ?_) (fun c => absurd c (by decide))
                      refine lv_iload hx hb dX9_serves_111 (lv_at hl 2 rfl) ?_
                      refine lv_istore (lv' := [(4, .int (-1)), (6, .int 0), (5, .int (nI k)), (2, .int 0), (3, .int af), (0, .ref (ma 0)), (1, .int (nI sn))]) hx hb dX9_serves_113 hl (by decide) rfl (fun ls hl => ?_)
                      refine lv_iinc (v := nI (k + 1)) (lv' := [(5, .int (nI (k + 1))), (4, .int (-1)), (6, .int 0), (2, .int 0), (3, .int af), (0, .ref (ma 0)), (1, .int (nI sn))]) hx hb dX9_serves_115 hl (k := 2) rfl (nI_inc _) (by decide) rfl (fun ls hl => ?_)
                      refine lv_goto (tgt := 27) hx hb dX9_serves_118 (by decide) ?_
                      exact ih5 (k + 1) none H locs ls (by omega) (hq19.symm.trans (hbb.trans (nlGo_f (by simp [cndL, c_6f, c_20f, c_22f, c_24t])).symm)) (fun j hj => by cases hj) hM hS (by omega) (lv_sub hl [0, 1, 3, 4, 5, 6] rfl)
                    · refine lv_iconst (v := 1) hx hb dX9_serves_71 (by decide) ?_
                      refine lv_goto (tgt := 76) hx hb dX9_serves_72 (by decide) ?_
                      refine lv_istore (lv' := [(6, .int 1), (5, .int (nI k)), (4, .int (-1)), (2, .int 0), (3, .int af), (0, .ref (ma 0)), (1, .int (nI sn))]) hx hb dX9_serves_76 hl (by decide) rfl (fun ls hl => ?_)
                      refine lv_iload hx hb dX9_serves_78 (lv_at hl 0 rfl) ?_
                      refine lv_if_eq (tgt := 111) hx hb dX9_serves_80 (by decide) (fun c => absurd c (by decide)) (fun _ => ?_)
                      refine lv_iload hx hb dX9_serves_83 (lv_at hl 2 rfl) ?_
                      refine lv_iconst (v := (-1)) hx hb dX9_serves_85 (by decide) ?_
                      refine lv_icmp_eq (tgt := 106) hx hb dX9_serves_86 (by decide) (fun _ => ?_) (fun c => absurd c (by decide))
                      refine lv_iload hx hb dX9_serves_106 (lv_at hl 1 rfl) ?_
                      refine lv_goto (tgt := 113) hx hb dX9_serves_108 (by decide) ?_
                      refine lv_istore (lv' := [(4, .int (nI k)), (6, .int 1), (5, .int (nI k)), (2, .int 0), (3, .int af), (0, .ref (ma 0)), (1, .int (nI sn))]) hx hb dX9_serves_113 hl (by decide) rfl (fun ls hl => ?_)
                      refine lv_iinc (v := nI (k + 1)) (lv' := [(5, .int (nI (k + 1))), (4, .int (nI k)), (6, .int 1), (2, .int 0), (3, .int af), (0, .ref (ma 0)), (1, .int (nI sn))]) hx hb dX9_serves_115 hl (k := 2) rfl (nI_inc _) (by decide) rfl (fun ls hl => ?_)
                      refine lv_goto (tgt := 27) hx hb dX9_serves_118 (by decide) ?_
                      exact ih5 (k + 1) (some k) H locs ls (by omega) ((nlGo_n (by simp [cndL, c_6f, c_20f, c_22f, c_24f]) (hbb.symm.trans hq19)).symm) (fun j hj => by cases hj; omega) hM hS (by omega) (lv_sub hl [0, 1, 3, 4, 5, 6] rfl)
              · have hl : lv_has ls 7 [(5, .int (nI k)), (4, .int (nI p19)), (2, .int 0), (3, .int af), (0, .ref (ma 0)), (1, .int (nI sn))] := by rw [hq19] at hl; exact hl
                have hk0 := hb30 _ hq19
                refine lv_aload_n hx hb dX9_serves_34 rfl (lv_at hl 4 rfl) ?_
                refine lv_iload hx hb dX9_serves_35 (lv_at hl 0 rfl) ?_
                refine lv_iconst (v := 3) hx hb dX9_serves_37 (by decide) ?_
                refine lv_idiv hx hb dX9_serves_38 (by decide) ?_
                refine top_i (y := nI (k / 3)) (pk_div (a := k) (d := 3) (by omega) (by decide) (by decide)) ?_
                refine lv_iload hx hb dX9_serves_39 (lv_at hl 0 rfl) ?_
                refine lv_iconst (v := 3) hx hb dX9_serves_41 (by decide) ?_
                refine lv_irem hx hb dX9_serves_42 (by decide) ?_
                refine top_i (y := nI (k % 3)) (pk_rem (a := k) (d := 3) (by omega) (by decide) (by decide)) ?_
                refine cl_pi (x := bI (VL M k)) (run_V hC (c9_isLine l G ma M none (nI (k / 3)) (nI (k % 3)) hcnt) (As := [.int (nI (k / 3)), .int (nI (k % 3))]) (rest := []) rfl rfl ml_X9_156 im_X9_isLine se_X9_isLine ini_X9 cd_X9_isLine ⟨rfl, na_X9_isLine⟩ mB_blind (mr_recv hK hM) (mr_B hK hM) hl.1 (Nat.le_of_ble_eq_true rfl) ⟨Nat.le_of_ble_eq_true rfl, Nat.le_of_ble_eq_true rfl⟩ ⟨Nat.le_refl _, Nat.le_refl _⟩ rfl dX9_serves_43) (congrArg bI (lnB_VL hcnt (by omega))) ?_
                refine lb_eq (tgt := 75) (b := (VL M k)) hx hb dX9_serves_46 (by decide) (fun c_28t => ?_) (fun c_28f => ?_)
                · refine lv_iconst (v := 0) hx hb dX9_serves_75 (by decide) ?_
                  refine lv_istore (lv' := [(6, .int 0), (5, .int (nI k)), (4, .int (nI p19)), (2, .int 0), (3, .int af), (0, .ref (ma 0)), (1, .int (nI sn))]) hx hb dX9_serves_76 hl (by decide) rfl (fun ls hl => ?_)
                  refine lv_iload hx hb dX9_serves_78 (lv_at hl 0 rfl) ?_
                  refine lv_if_eq (tgt := 111) hx hb dX9_serves_80 (by decide) (fun _ => ?_) (fun c => absurd c (by decide))
                  refine lv_iload hx hb dX9_serves_111 (lv_at hl 2 rfl) ?_
                  refine lv_istore (lv' := [(4, .int (nI p19)), (6, .int 0), (5, .int (nI k)), (2, .int 0), (3, .int af), (0, .ref (ma 0)), (1, .int (nI sn))]) hx hb dX9_serves_113 hl (by decide) rfl (fun ls hl => ?_)
                  refine lv_iinc (v := nI (k + 1)) (lv' := [(5, .int (nI (k + 1))), (4, .int (nI p19)), (6, .int 0), (2, .int 0), (3, .int af), (0, .ref (ma 0)), (1, .int (nI sn))]) hx hb dX9_serves_115 hl (k := 2) rfl (nI_inc _) (by decide) rfl (fun ls hl => ?_)
                  refine lv_goto (tgt := 27) hx hb dX9_serves_118 (by decide) ?_
                  exact ih5 (k + 1) (some p19) H locs ls (by omega) (hq19.symm.trans (hbb.trans (nlGo_f (by simp [cndL, c_6f, c_28t])).symm)) (fun j hj => by cases hj; have := hb30 _ hq19; omega) hM hS (by omega) (lv_sub hl [0, 1, 3, 4, 5, 6] rfl)
                · refine lv_aload_n hx hb dX9_serves_49 rfl (lv_at hl 4 rfl) ?_
                  refine ms_get hC hK hM 14 (by decide) fl_X9_38 rfl (v := .ref (ma 14)) rfl (fun q => rfl) dX9_serves_50 ?_
                  refine lv_iload hx hb dX9_serves_53 (lv_at hl 0 rfl) ?_
                  refine ms_ild hC hK hM 14 (i := k) (show k < 30 from by omega) (by decide) rfl rfl (v := M 14 k) rfl dX9_serves_55 ?_
                  refine lv_iload_n hx hb dX9_serves_56 rfl (lv_at hl 5 rfl) ?_
                  refine lv_icmp_ne (tgt := 75) hx hb dX9_serves_57 (by decide) (fun c_30t => ?_) (fun c_30f => ?_)
                  · refine lv_iconst (v := 0) hx hb dX9_serves_75 (by decide) ?_
                    refine lv_istore (lv' := [(6, .int 0), (5, .int (nI k)), (4, .int (nI p19)), (2, .int 0), (3, .int af), (0, .ref (ma 0)), (1, .int (nI sn))]) hx hb dX9_serves_76 hl (by decide) rfl (fun ls hl => ?_)
                    refine lv_iload hx hb dX9_serves_78 (lv_at hl 0 rfl) ?_
                    refine lv_if_eq (tgt := 111) hx hb dX9_serves_80 (by decide) (fun _ => ?_) (fun c => absurd c (by decide))
                    refine lv_iload hx hb dX9_serves_111 (lv_at hl 2 rfl) ?_
                    refine lv_istore (lv' := [(4, .int (nI p19)), (6, .int 0), (5, .int (nI k)), (2, .int 0), (3, .int af), (0, .ref (ma 0)), (1, .int (nI sn))]) hx hb dX9_serves_113 hl (by decide) rfl (fun ls hl => ?_)
                    refine lv_iinc (v := nI (k + 1)) (lv' := [(5, .int (nI (k + 1))), (4, .int (nI p19)), (6, .int 0), (2, .int 0), (3, .int af), (0, .ref (ma 0)), (1, .int (nI sn))]) hx hb dX9_serves_115 hl (k := 2) rfl (nI_inc _) (by decide) rfl (fun ls hl => ?_)
                    refine lv_goto (tgt := 27) hx hb dX9_serves_118 (by decide) ?_
                    exact ih5 (k + 1) (some p19) H locs ls (by omega) (hq19.symm.trans (hbb.trans (nlGo_f (by simp [cndL, c_6f, c_28f, c_30t])).symm)) (fun j hj => by cases hj; have := hb30 _ hq19; omega) hM hS (by omega) (lv_sub hl [0, 1, 3, 4, 5, 6] rfl)
                  · refine lv_aload_n hx hb dX9_serves_60 rfl (lv_at hl 4 rfl) ?_
                    refine ms_get hC hK hM 15 (by decide) fl_X9_41 rfl (v := .ref (ma 15)) rfl (fun q => rfl) dX9_serves_61 ?_
                    refine lv_iload hx hb dX9_serves_64 (lv_at hl 0 rfl) ?_
                    refine ms_ild hC hK hM 15 (i := k) (show k < 30 from by omega) (by decide) rfl rfl (v := M 15 k) rfl dX9_serves_66 ?_
                    refine lv_iload_n hx hb dX9_serves_67 rfl (lv_at hl 3 rfl) ?_
                    refine lv_icmp_le (tgt := 75) hx hb dX9_serves_68 (by decide) (fun c_32t => ?_) (fun c_32f => ?_)
                    · refine lv_iconst (v := 0) hx hb dX9_serves_75 (by decide) ?_
                      refine lv_istore (lv' := [(6, .int 0), (5, .int (nI k)), (4, .int (nI p19)), (2, .int 0), (3, .int af), (0, .ref (ma 0)), (1, .int (nI sn))]) hx hb dX9_serves_76 hl (by decide) rfl (fun ls hl => ?_)
                      refine lv_iload hx hb dX9_serves_78 (lv_at hl 0 rfl) ?_
                      refine lv_if_eq (tgt := 111) hx hb dX9_serves_80 (by decide) (fun _ => ?_) (fun c => absurd c (by decide))
                      refine lv_iload hx hb dX9_serves_111 (lv_at hl 2 rfl) ?_
                      refine lv_istore (lv' := [(4, .int (nI p19)), (6, .int 0), (5, .int (nI k)), (2, .int 0), (3, .int af), (0, .ref (ma 0)), (1, .int (nI sn))]) hx hb dX9_serves_113 hl (by decide) rfl (fun ls hl => ?_)
                      refine lv_iinc (v := nI (k + 1)) (lv' := [(5, .int (nI (k + 1))), (4, .int (nI p19)), (6, .int 0), (2, .int 0), (3, .int af), (0, .ref (ma 0)), (1, .int (nI sn))]) hx hb dX9_serves_115 hl (k := 2) rfl (nI_inc _) (by decide) rfl (fun ls hl => ?_)
                      refine lv_goto (tgt := 27) hx hb dX9_serves_118 (by decide) ?_
                      exact ih5 (k + 1) (some p19) H locs ls (by omega) (hq19.symm.trans (hbb.trans (nlGo_f (by simp [cndL, c_6f, c_28f, c_30f, c_32t])).symm)) (fun j hj => by cases hj; have := hb30 _ hq19; omega) hM hS (by omega) (lv_sub hl [0, 1, 3, 4, 5, 6] rfl)
                    · refine lv_iconst (v := 1) hx hb dX9_serves_71 (by decide) ?_
                      refine lv_goto (tgt := 76) hx hb dX9_serves_72 (by decide) ?_
                      refine lv_istore (lv' := [(6, .int 1), (5, .int (nI k)), (4, .int (nI p19)), (2, .int 0), (3, .int af), (0, .ref (ma 0)), (1, .int (nI sn))]) hx hb dX9_serves_76 hl (by decide) rfl (fun ls hl => ?_)
                      refine lv_iload hx hb dX9_serves_78 (lv_at hl 0 rfl) ?_
                      refine lv_if_eq (tgt := 111) hx hb dX9_serves_80 (by decide) (fun c => absurd c (by decide)) (fun _ => ?_)
                      refine lv_iload hx hb dX9_serves_83 (lv_at hl 2 rfl) ?_
                      refine lv_iconst (v := (-1)) hx hb dX9_serves_85 (by decide) ?_
                      refine lv_icmp_eq (tgt := 106) hx hb dX9_serves_86 (by decide) (fun c => absurd c (nI_m1 (by omega))) (fun _ => ?_)
                      refine lv_aload_n hx hb dX9_serves_89 rfl (lv_at hl 5 rfl) ?_
                      refine ms_get hC hK hM 15 (by decide) fl_X9_41 rfl (v := .ref (ma 15)) rfl (fun q => rfl) dX9_serves_90 ?_
                      refine lv_iload hx hb dX9_serves_93 (lv_at hl 1 rfl) ?_
                      refine ms_ild hC hK hM 15 (i := k) (show k < 30 from by omega) (by decide) rfl rfl (v := M 15 k) rfl dX9_serves_95 ?_
                      refine lv_aload_n hx hb dX9_serves_96 rfl (lv_at hl 5 rfl) ?_
                      refine ms_get hC hK hM 15 (by decide) fl_X9_41 rfl (v := .ref (ma 15)) rfl (fun q => rfl) dX9_serves_97 ?_
                      refine lv_iload hx hb dX9_serves_100 (lv_at hl 2 rfl) ?_
                      refine ms_ild hC hK hM 15 (i := p19) (show p19 < 30 from by omega) (by decide) rfl rfl (v := M 15 p19) rfl dX9_serves_102 ?_
                      refine lv_icmp_ge (tgt := 111) hx hb dX9_serves_103 (by decide) (fun c_36t => ?_) (fun c_36f => ?_)
                      · refine lv_iload hx hb dX9_serves_111 (lv_at hl 2 rfl) ?_
                        refine lv_istore (lv' := [(4, .int (nI p19)), (6, .int 1), (5, .int (nI k)), (2, .int 0), (3, .int af), (0, .ref (ma 0)), (1, .int (nI sn))]) hx hb dX9_serves_113 hl (by decide) rfl (fun ls hl => ?_)
                        refine lv_iinc (v := nI (k + 1)) (lv' := [(5, .int (nI (k + 1))), (4, .int (nI p19)), (6, .int 1), (2, .int 0), (3, .int af), (0, .ref (ma 0)), (1, .int (nI sn))]) hx hb dX9_serves_115 hl (k := 2) rfl (nI_inc _) (by decide) rfl (fun ls hl => ?_)
                        refine lv_goto (tgt := 27) hx hb dX9_serves_118 (by decide) ?_
                        exact ih5 (k + 1) (some p19) H locs ls (by omega) ((nlGo_ge (by simp [cndL, c_6f, c_28f, c_30f, c_32f]) (hbb.symm.trans hq19) (fun q => absurd c_36t (Int32.not_le.mpr q))).symm) (fun j hj => by cases hj; have := hb30 _ hq19; omega) hM hS (by omega) (lv_sub hl [0, 1, 3, 4, 5, 6] rfl)
                      · refine lv_iload hx hb dX9_serves_106 (lv_at hl 1 rfl) ?_
                        refine lv_goto (tgt := 113) hx hb dX9_serves_108 (by decide) ?_
                        refine lv_istore (lv' := [(4, .int (nI k)), (6, .int 1), (5, .int (nI k)), (2, .int 0), (3, .int af), (0, .ref (ma 0)), (1, .int (nI sn))]) hx hb dX9_serves_113 hl (by decide) rfl (fun ls hl => ?_)
                        refine lv_iinc (v := nI (k + 1)) (lv' := [(5, .int (nI (k + 1))), (4, .int (nI k)), (6, .int 1), (2, .int 0), (3, .int af), (0, .ref (ma 0)), (1, .int (nI sn))]) hx hb dX9_serves_115 hl (k := 2) rfl (nI_inc _) (by decide) rfl (fun ls hl => ?_)
                        refine lv_goto (tgt := 27) hx hb dX9_serves_118 (by decide) ?_
                        exact ih5 (k + 1) (some k) H locs ls (by omega) ((nlGo_lt (by simp [cndL, c_6f, c_28f, c_30f, c_32f]) (hbb.symm.trans hq19) (Int32.not_le.mp c_36f)).symm) (fun j hj => by cases hj; omega) hM hS (by omega) (lv_sub hl [0, 1, 3, 4, 5, 6] rfl)
        exact loop5 ((30 - 0) + 1) 0 none H locs ls (by omega) rfl (fun j hj => by cases hj) hM hS (by omega) (lv_sub hl [0, 1, 2, 3, 4, 5] rfl)
    exact loop2 ((remN M (nI sn) 0) + 1) 0 0 31 H locs ls (by have := fb_ct_le (cndL M (nI sn) 0) 30; unfold remN; omega) (by rw [srvF, hh1]; rfl) (by omega) hM hS (by omega) (lv_sub hl [2, 1, 0, 3, 4] rfl)
  · have hl : lv_has ls 7 [(4, .int 0), (3, .int 0), (2, .int 1), (0, .ref (ma 0)), (1, .int (nI sn))] := by rw [hh1] at hl; exact hl
    have hM := hM.none
    refine lv_iload_n hx hb dX9_serves_11 rfl (lv_at hl 2 rfl) ?_
    refine lv_if_ne (tgt := 174) hx hb dX9_serves_12 (by decide) (fun _ => ?_) (fun c => absurd c (by decide))
    subst hQ
    exact rt_mv hx hb hr hlk hM.none hS  (by rw [srvF, hh1]; rfl) dX9_serves_174
set_option maxHeartbeats 4000000 in
set_option maxRecDepth 100000 in
theorem c9_goalOf (l : Launch) (G : gG) (ma : Nat → Nat) (M : MS) (D : mD) (r : Nat) (hr6 : r < 6) (hgo : (M 20 r = 2 → ∃ k, k < 30 ∧ M 22 r = nI k ∧ ∃ s, s < 3 ∧ M 14 k = nI s) ∧ (M 20 r = 1 ∨ M 20 r = 4 → ∃ t, t < 16 ∧ M 21 r = nI t)) : Met l yX9_goalOf (wB yX9_goalOf cX9_goalOf 3 (some .int)) (rmL 0 0 0) (va_Pc [.ref (ma 0), .int (nI r)] (mB G ma M D)) (k2_QcV (.int (goalV M r))) 0 0 fN := by
  refine st_N (own := RX9) (by decide +kernel) rfl (Nat.le_of_ble_eq_true rfl) ?_
  intro p e s m below meth c ls args Q hQ hC hr hlk hnm hl hP
  obtain ⟨hM, hK⟩ := hP
  have hx := hC.1
  have hb := hC.2.1
  have hl : lv_has ls 3 [(0, .ref (ma 0)), (1, .int (nI r))] := hl
  refine lv_aload_n hx hb dX9_goalOf_0 rfl (lv_at hl 0 rfl) ?_
  refine ms_get hC hK hM 20 (by decide) fl_X9_50 rfl (v := .ref (ma 20)) rfl (fun q => rfl) dX9_goalOf_1 ?_
  refine lv_iload_n hx hb dX9_goalOf_4 rfl (lv_at hl 1 rfl) ?_
  refine ms_ild hC hK hM 20 (i := r) (show r < 6 from by omega) (by decide) rfl rfl (v := M 20 r) rfl dX9_goalOf_5 ?_
  refine lv_istore_n (lv' := [(2, .int (M 20 r)), (0, .ref (ma 0)), (1, .int (nI r))]) hx hb dX9_goalOf_6 rfl hl (by decide) rfl (fun ls hl => ?_)
  refine lv_iload_n hx hb dX9_goalOf_7 rfl (lv_at hl 0 rfl) ?_
  refine lv_iconst (v := 2) hx hb dX9_goalOf_8 (by decide) ?_
  refine lv_icmp_ne (tgt := 31) hx hb dX9_goalOf_9 (by decide) (fun c_1t => ?_) (fun c_1f => ?_)
  · refine lv_iload_n hx hb dX9_goalOf_31 rfl (lv_at hl 0 rfl) ?_
    refine lv_iconst (v := 1) hx hb dX9_goalOf_32 (by decide) ?_
    refine lv_icmp_eq (tgt := 41) hx hb dX9_goalOf_33 (by decide) (fun c_2t => ?_) (fun c_2f => ?_)
    · obtain ⟨t, ht16, ht⟩ := hgo.2 (by simp [c_2t])
      have hxt := ix_nI (n := t) (by omega)
      refine lv_aload_n hx hb dX9_goalOf_41 rfl (lv_at hl 1 rfl) ?_
      refine ms_get hC hK hM 7 (by decide) fl_X9_20 rfl (v := .ref (ma 7)) rfl (fun q => rfl) dX9_goalOf_42 ?_
      refine lv_aload_n hx hb dX9_goalOf_45 rfl (lv_at hl 1 rfl) ?_
      refine ms_get hC hK hM 21 (by decide) fl_X9_53 rfl (v := .ref (ma 21)) rfl (fun q => rfl) dX9_goalOf_46 ?_
      refine lv_iload_n hx hb dX9_goalOf_49 rfl (lv_at hl 2 rfl) ?_
      refine ms_ild hC hK hM 21 (i := r) (show r < 6 from by omega) (by decide) rfl rfl (v := nI t) ht dX9_goalOf_50 ?_
      refine ms_ild hC hK hM 7 (i := t) (show t < 16 from by omega) (by decide) rfl rfl (v := M 7 t) rfl dX9_goalOf_51 ?_
      refine lv_goto (tgt := 56) hx hb dX9_goalOf_52 (by decide) ?_
      subst hQ
      exact rt_i hx hb hr hlk (by simp [goalV, c_1t, c_2t, ht, hxt]) dX9_goalOf_56
    · refine lv_iload_n hx hb dX9_goalOf_36 rfl (lv_at hl 0 rfl) ?_
      refine lv_iconst (v := 4) hx hb dX9_goalOf_37 (by decide) ?_
      refine lv_icmp_ne (tgt := 55) hx hb dX9_goalOf_38 (by decide) (fun c_3t => ?_) (fun c_3f => ?_)
      · refine lv_iconst (v := (-1)) hx hb dX9_goalOf_55 (by decide) ?_
        subst hQ
        exact rt_i hx hb hr hlk (by simp [goalV, c_1t, c_2f, c_3t]) dX9_goalOf_56
      · obtain ⟨t, ht16, ht⟩ := hgo.2 (by simp [c_3f])
        have hxt := ix_nI (n := t) (by omega)
        refine lv_aload_n hx hb dX9_goalOf_41 rfl (lv_at hl 1 rfl) ?_
        refine ms_get hC hK hM 7 (by decide) fl_X9_20 rfl (v := .ref (ma 7)) rfl (fun q => rfl) dX9_goalOf_42 ?_
        refine lv_aload_n hx hb dX9_goalOf_45 rfl (lv_at hl 1 rfl) ?_
        refine ms_get hC hK hM 21 (by decide) fl_X9_53 rfl (v := .ref (ma 21)) rfl (fun q => rfl) dX9_goalOf_46 ?_
        refine lv_iload_n hx hb dX9_goalOf_49 rfl (lv_at hl 2 rfl) ?_
        refine ms_ild hC hK hM 21 (i := r) (show r < 6 from by omega) (by decide) rfl rfl (v := nI t) ht dX9_goalOf_50 ?_
        refine ms_ild hC hK hM 7 (i := t) (show t < 16 from by omega) (by decide) rfl rfl (v := M 7 t) rfl dX9_goalOf_51 ?_
        refine lv_goto (tgt := 56) hx hb dX9_goalOf_52 (by decide) ?_
        subst hQ
        exact rt_i hx hb hr hlk (by simp [goalV, c_1t, c_2f, c_3f, ht, hxt]) dX9_goalOf_56
  · obtain ⟨k, hk30, hk, s3, hs3, hs⟩ := hgo.1 c_1f
    have hxk := ix_nI (n := k) (by omega)
    have hxs := ix_nI (n := s3) (by omega)
    refine lv_aload_n hx hb dX9_goalOf_12 rfl (lv_at hl 1 rfl) ?_
    refine ms_get hC hK hM 5 (by decide) fl_X9_16 rfl (v := .ref (ma 5)) rfl (fun q => rfl) dX9_goalOf_13 ?_
    refine lv_aload_n hx hb dX9_goalOf_16 rfl (lv_at hl 1 rfl) ?_
    refine ms_get hC hK hM 14 (by decide) fl_X9_38 rfl (v := .ref (ma 14)) rfl (fun q => rfl) dX9_goalOf_17 ?_
    refine lv_aload_n hx hb dX9_goalOf_20 rfl (lv_at hl 1 rfl) ?_
    refine ms_get hC hK hM 22 (by decide) fl_X9_56 rfl (v := .ref (ma 22)) rfl (fun q => rfl) dX9_goalOf_21 ?_
    refine lv_iload_n hx hb dX9_goalOf_24 rfl (lv_at hl 2 rfl) ?_
    refine ms_ild hC hK hM 22 (i := r) (show r < 6 from by omega) (by decide) rfl rfl (v := nI k) hk dX9_goalOf_25 ?_
    refine ms_ild hC hK hM 14 (i := k) (show k < 30 from by omega) (by decide) rfl rfl (v := nI s3) hs dX9_goalOf_26 ?_
    refine ms_ild hC hK hM 5 (i := s3) (show s3 < 3 from by omega) (by decide) rfl rfl (v := M 5 s3) rfl dX9_goalOf_27 ?_
    refine lv_goto (tgt := 56) hx hb dX9_goalOf_28 (by decide) ?_
    subst hQ
    exact rt_i hx hb hr hlk (by simp [goalV, c_1f, hk, hxk, hs, hxs]) dX9_goalOf_56
