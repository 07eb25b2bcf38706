set_option maxHeartbeats 4000000 in
set_option maxRecDepth 100000 in
theorem c9_robotWith (l : Launch) (G : gG) (ma : Nat → Nat) (M : MS) (D : mD) (t : Int32) (goes : Bool) (hcnt : CNT M) : Met l yX9_robotWith (wB yX9_robotWith cX9_robotWith 5 (some .int)) (rmL 0 0 0) (va_Pc [.ref (ma 0), .int t, .int (bI goes)] (mB G ma M D)) (k2_QcV (.int (oI (rwA M t goes)))) 0 0 fN := by
  refine st_N (own := RX9) (by decide +kernel) rfl (Nat.le_of_ble_eq_true rfl) ?_
  intro p e s m below meth c ls args Q hQ hC hr hlk hnm hl hP
  obtain ⟨hM, hK⟩ := hP
  have hx := hC.1
  have hb := hC.2.1
  have hl : lv_has ls 5 [(0, .ref (ma 0)), (1, .int t), (2, .int (bI goes))] := hl
  have h6 := hcnt.R6
  have h3 := hcnt.S3
  have h16 := hcnt.T16
  have h10 := hcnt.O10
  refine lv_iconst (v := (-1)) hx hb dX9_robotWith_0 (by decide) ?_
  refine lv_istore_n (lv' := [(3, .int (-1)), (0, .ref (ma 0)), (1, .int t), (2, .int (bI goes))]) hx hb dX9_robotWith_1 rfl hl (by decide) rfl (fun ls hl => ?_)
  refine lv_iconst (v := 0) hx hb dX9_robotWith_2 (by decide) ?_
  refine lv_istore (lv' := [(4, .int 0), (3, .int (-1)), (0, .ref (ma 0)), (1, .int t), (2, .int (bI goes))]) hx hb dX9_robotWith_3 hl (by decide) rfl (fun ls hl => ?_)
  have loop1 : ∀ (n : Nat) (k : Nat) (r : Option Nat) (ls : Array Slot) (hk : k ≤ nR M) (hrr : r = lastP (fun k => decide (M 21 k = t) && (decide (M 20 k = 1) == goes)) k), nR M - k < n → lv_has ls 5 [(4, .int (nI k)), (3, .int (oI r)), (0, .ref (ma 0)), (1, .int t), (2, .int (bI goes))] → W p l e (rmL 0 0 0) s m args below meth c s.heap [] 0 0 Q (F0 m 5 ls []) := by
    intro n
    induction n with
    | zero => intro k r ls hk hrr hm hl; omega
    | succ n ih1 =>
      intro k r ls hk hrr hm hl
      refine lv_iload hx hb dX9_robotWith_5 (lv_at hl 0 rfl) ?_
      refine lv_aload_n hx hb dX9_robotWith_7 rfl (lv_at hl 2 rfl) ?_
      refine ms_get hC hK hM 17 (by decide) fl_X9_103 rfl (v := .int (nI (nR M))) (congrArg Value.int (show M 17 0 = (nI (nR M)) from hcnt.R)) (fun q => rfl) dX9_robotWith_8 ?_
      refine ln_ge (tgt := 58) (a := k) (b := (nR M)) hx hb dX9_robotWith_11 (by decide) rfl rfl (by omega) (by omega) (fun c_2t => ?_) (fun c_2f => ?_)
      · refine lv_iload_n hx hb dX9_robotWith_58 rfl (lv_at hl 1 rfl) ?_
        subst hQ
        exact rt_i hx hb hr hlk (by rw [hrr, show k = nR M by omega]; rfl) dX9_robotWith_59
      · refine lv_aload_n hx hb dX9_robotWith_14 rfl (lv_at hl 2 rfl) ?_
        refine ms_get hC hK hM 21 (by decide) fl_X9_53 rfl (v := .ref (ma 21)) rfl (fun q => rfl) dX9_robotWith_15 ?_
        refine lv_iload hx hb dX9_robotWith_18 (lv_at hl 0 rfl) ?_
        refine ms_ild hC hK hM 21 (i := k) (show k < 6 from by omega) (by decide) rfl rfl (v := M 21 k) rfl dX9_robotWith_20 ?_
        refine lv_iload_n hx hb dX9_robotWith_21 rfl (lv_at hl 3 rfl) ?_
        refine lv_icmp_ne (tgt := 50) hx hb dX9_robotWith_22 (by decide) (fun c_3t => ?_) (fun c_3f => ?_)
        · refine lv_iload_n hx hb dX9_robotWith_50 rfl (lv_at hl 1 rfl) ?_
          refine lv_istore_n (lv' := [(3, .int (oI r)), (4, .int (nI k)), (0, .ref (ma 0)), (1, .int t), (2, .int (bI goes))]) hx hb dX9_robotWith_51 rfl hl (by decide) rfl (fun ls hl => ?_)
          refine lv_iinc (v := nI (k + 1)) (lv' := [(4, .int (nI (k + 1))), (3, .int (oI r)), (0, .ref (ma 0)), (1, .int t), (2, .int (bI goes))]) hx hb dX9_robotWith_52 hl (k := 1) rfl (nI_inc _) (by decide) rfl (fun ls hl => ?_)
          refine lv_goto (tgt := 5) hx hb dX9_robotWith_55 (by decide) ?_
          exact ih1 (k + 1) r ls (by omega) (hrr.trans (lastP_f (by simp_all [bI0, bI1, bI_t, bI_f, c_2f, c_3t])).symm) (by omega) (lv_sub hl [0, 1, 2, 3, 4] rfl)
        · refine lv_aload_n hx hb dX9_robotWith_25 rfl (lv_at hl 2 rfl) ?_
          refine ms_get hC hK hM 20 (by decide) fl_X9_50 rfl (v := .ref (ma 20)) rfl (fun q => rfl) dX9_robotWith_26 ?_
          refine lv_iload hx hb dX9_robotWith_29 (lv_at hl 0 rfl) ?_
          refine ms_ild hC hK hM 20 (i := k) (show k < 6 from by omega) (by decide) rfl rfl (v := M 20 k) rfl dX9_robotWith_31 ?_
          refine lv_iconst (v := 1) hx hb dX9_robotWith_32 (by decide) ?_
          refine lv_icmp_ne (tgt := 40) hx hb dX9_robotWith_33 (by decide) (fun c_4t => ?_) (fun c_4f => ?_)
          · refine lv_iconst (v := 0) hx hb dX9_robotWith_40 (by decide) ?_
            refine lv_iload_n hx hb dX9_robotWith_41 rfl (lv_at hl 4 rfl) ?_
            refine lv_icmp_ne (tgt := 50) hx hb dX9_robotWith_42 (by decide) (fun c_5t => ?_) (fun c_5f => ?_)
            · refine lv_iload_n hx hb dX9_robotWith_50 rfl (lv_at hl 1 rfl) ?_
              refine lv_istore_n (lv' := [(3, .int (oI r)), (4, .int (nI k)), (0, .ref (ma 0)), (1, .int t), (2, .int (bI goes))]) hx hb dX9_robotWith_51 rfl hl (by decide) rfl (fun ls hl => ?_)
              refine lv_iinc (v := nI (k + 1)) (lv' := [(4, .int (nI (k + 1))), (3, .int (oI r)), (0, .ref (ma 0)), (1, .int t), (2, .int (bI goes))]) hx hb dX9_robotWith_52 hl (k := 1) rfl (nI_inc _) (by decide) rfl (fun ls hl => ?_)
              refine lv_goto (tgt := 5) hx hb dX9_robotWith_55 (by decide) ?_
              exact ih1 (k + 1) r ls (by omega) (hrr.trans (lastP_f (by simp_all [bI0, bI1, bI_t, bI_f, c_2f, c_3f, c_4t, c_5t])).symm) (by omega) (lv_sub hl [0, 1, 2, 3, 4] rfl)
            · refine lv_iload hx hb dX9_robotWith_45 (lv_at hl 0 rfl) ?_
              refine lv_goto (tgt := 51) hx hb dX9_robotWith_47 (by decide) ?_
              refine lv_istore_n (lv' := [(3, .int (nI k)), (4, .int (nI k)), (0, .ref (ma 0)), (1, .int t), (2, .int (bI goes))]) hx hb dX9_robotWith_51 rfl hl (by decide) rfl (fun ls hl => ?_)
              refine lv_iinc (v := nI (k + 1)) (lv' := [(4, .int (nI (k + 1))), (3, .int (nI k)), (0, .ref (ma 0)), (1, .int t), (2, .int (bI goes))]) hx hb dX9_robotWith_52 hl (k := 1) rfl (nI_inc _) (by decide) rfl (fun ls hl => ?_)
              refine lv_goto (tgt := 5) hx hb dX9_robotWith_55 (by decide) ?_
              exact ih1 (k + 1) (some k) ls (by omega) ((lastP_t (by simp_all [bI0, bI1, bI_t, bI_f, c_2f, c_3f, c_4t, c_5f])).symm) (by omega) (lv_sub hl [0, 1, 2, 3, 4] rfl)
          · refine lv_iconst (v := 1) hx hb dX9_robotWith_36 (by decide) ?_
            refine lv_goto (tgt := 41) hx hb dX9_robotWith_37 (by decide) ?_
            refine lv_iload_n hx hb dX9_robotWith_41 rfl (lv_at hl 4 rfl) ?_
            refine lv_icmp_ne (tgt := 50) hx hb dX9_robotWith_42 (by decide) (fun c_6t => ?_) (fun c_6f => ?_)
            · refine lv_iload_n hx hb dX9_robotWith_50 rfl (lv_at hl 1 rfl) ?_
              refine lv_istore_n (lv' := [(3, .int (oI r)), (4, .int (nI k)), (0, .ref (ma 0)), (1, .int t), (2, .int (bI goes))]) hx hb dX9_robotWith_51 rfl hl (by decide) rfl (fun ls hl => ?_)
              refine lv_iinc (v := nI (k + 1)) (lv' := [(4, .int (nI (k + 1))), (3, .int (oI r)), (0, .ref (ma 0)), (1, .int t), (2, .int (bI goes))]) hx hb dX9_robotWith_52 hl (k := 1) rfl (nI_inc _) (by decide) rfl (fun ls hl => ?_)
              refine lv_goto (tgt := 5) hx hb dX9_robotWith_55 (by decide) ?_
              exact ih1 (k + 1) r ls (by omega) (hrr.trans (lastP_f (by simp_all [bI0, bI1, bI_t, bI_f, c_2f, c_3f, c_4f, c_6t])).symm) (by omega) (lv_sub hl [0, 1, 2, 3, 4] rfl)
            · refine lv_iload hx hb dX9_robotWith_45 (lv_at hl 0 rfl) ?_
              refine lv_goto (tgt := 51) hx hb dX9_robotWith_47 (by decide) ?_
              refine lv_istore_n (lv' := [(3, .int (nI k)), (4, .int (nI k)), (0, .ref (ma 0)), (1, .int t), (2, .int (bI goes))]) hx hb dX9_robotWith_51 rfl hl (by decide) rfl (fun ls hl => ?_)
              refine lv_iinc (v := nI (k + 1)) (lv' := [(4, .int (nI (k + 1))), (3, .int (nI k)), (0, .ref (ma 0)), (1, .int t), (2, .int (bI goes))]) hx hb dX9_robotWith_52 hl (k := 1) rfl (nI_inc _) (by decide) rfl (fun ls hl => ?_)
              refine lv_goto (tgt := 5) hx hb dX9_robotWith_55 (by decide) ?_
              exact ih1 (k + 1) (some k) ls (by omega) ((lastP_t (by simp_all [bI0, bI1, bI_t, bI_f, c_2f, c_3f, c_4f, c_6f])).symm) (by omega) (lv_sub hl [0, 1, 2, 3, 4] rfl)
  exact loop1 ((nR M - 0) + 1) 0 none ls (Nat.zero_le _) rfl (by omega) (lv_sub hl [0, 1, 2, 3, 4] rfl)
set_option maxHeartbeats 4000000 in
set_option maxRecDepth 100000 in
theorem c9_isTray (l : Launch) (G : gG) (ma : Nat → Nat) (M : MS) (D : mD) (t : Int32) (hcnt : CNT M) : Met l yX9_isTray (wB yX9_isTray cX9_isTray 2 (some .boolean)) (rmL 1 0 0) (va_Pc [.ref (ma 0), .int t] (mB G ma M D)) (k2_QcV (.int (bI (inB t (nI (nT M)))))) 0 0 fN := by
  refine st_N (own := RX9) (by decide +kernel) rfl (Nat.le_of_ble_eq_true rfl) ?_
  intro p e s m below meth c ls args Q hQ hC hr hlk hnm hl hP
  obtain ⟨hM, hK⟩ := hP
  have hx := hC.1
  have hb := hC.2.1
  have hl : lv_has ls 2 [(0, .ref (ma 0)), (1, .int t)] := hl
  have h6 := hcnt.R6
  have h3 := hcnt.S3
  have h16 := hcnt.T16
  have h10 := hcnt.O10
  refine lv_iload_n hx hb dX9_isTray_0 rfl (lv_at hl 1 rfl) ?_
  refine lv_aload_n hx hb dX9_isTray_1 rfl (lv_at hl 0 rfl) ?_
  refine ms_get hC hK hM 6 (by decide) fl_X9_109 rfl (v := .int (nI (nT M))) (congrArg Value.int (show M 6 0 = (nI (nT M)) from hcnt.T)) (fun q => rfl) dX9_isTray_2 ?_
  refine cl_p (run_S hC (c9_isIn l t (nI (nT M))) (As := [.int t, .int (nI (nT M))]) (rest := []) rfl rfl ml_X9_99 sm_X9_isIn ini_X9 cd_X9_isIn na_X9_isIn tB_blind (fun _ _ _ => trivial) hl.1 (Nat.le_of_ble_eq_true rfl) ⟨Nat.le_of_ble_eq_true rfl, Nat.le_of_ble_eq_true rfl⟩ ⟨Nat.le_refl _, Nat.le_refl _⟩ rfl dX9_isTray_5) ?_
  subst hQ
  exact rt_z hx hb hr hlk (rfl) dX9_isTray_8
set_option maxHeartbeats 4000000 in
set_option maxRecDepth 100000 in
theorem c9_isRobot (l : Launch) (G : gG) (ma : Nat → Nat) (M : MS) (D : mD) (r : Int32) (hcnt : CNT M) : Met l yX9_isRobot (wB yX9_isRobot cX9_isRobot 2 (some .boolean)) (rmL 1 0 0) (va_Pc [.ref (ma 0), .int r] (mB G ma M D)) (k2_QcV (.int (bI (inB r (nI (nR M)))))) 0 0 fN := by
  refine st_N (own := RX9) (by decide +kernel) rfl (Nat.le_of_ble_eq_true rfl) ?_
  intro p e s m below meth c ls args Q hQ hC hr hlk hnm hl hP
  obtain ⟨hM, hK⟩ := hP
  have hx := hC.1
  have hb := hC.2.1
  have hl : lv_has ls 2 [(0, .ref (ma 0)), (1, .int r)] := hl
  have h6 := hcnt.R6
  have h3 := hcnt.S3
  have h16 := hcnt.T16
  have h10 := hcnt.O10
  refine lv_iload_n hx hb dX9_isRobot_0 rfl (lv_at hl 1 rfl) ?_
  refine lv_aload_n hx hb dX9_isRobot_1 rfl (lv_at hl 0 rfl) ?_
  refine ms_get hC hK hM 17 (by decide) fl_X9_103 rfl (v := .int (nI (nR M))) (congrArg Value.int (show M 17 0 = (nI (nR M)) from hcnt.R)) (fun q => rfl) dX9_isRobot_2 ?_
  refine cl_p (run_S hC (c9_isIn l r (nI (nR M))) (As := [.int r, .int (nI (nR M))]) (rest := []) rfl rfl ml_X9_99 sm_X9_isIn ini_X9 cd_X9_isIn na_X9_isIn tB_blind (fun _ _ _ => trivial) hl.1 (Nat.le_of_ble_eq_true rfl) ⟨Nat.le_of_ble_eq_true rfl, Nat.le_of_ble_eq_true rfl⟩ ⟨Nat.le_refl _, Nat.le_refl _⟩ rfl dX9_isRobot_5) ?_
  subst hQ
  exact rt_z hx hb hr hlk (rfl) dX9_isRobot_8
set_option maxHeartbeats 4000000 in
set_option maxRecDepth 100000 in
theorem c9_isLine (l : Launch) (G : gG) (ma : Nat → Nat) (M : MS) (D : mD) (o : Int32) (n : Int32) (hcnt : CNT M) : Met l yX9_isLine (wB yX9_isLine cX9_isLine 3 (some .boolean)) (rmL 1 0 0) (va_Pc [.ref (ma 0), .int o, .int n] (mB G ma M D)) (k2_QcV (.int (bI (lnB M o n)))) 0 0 fN := by
  refine st_N (own := RX9) (by decide +kernel) rfl (Nat.le_of_ble_eq_true rfl) ?_
  intro p e s m below meth c ls args Q hQ hC hr hlk hnm hl hP
  obtain ⟨hM, hK⟩ := hP
  have hx := hC.1
  have hb := hC.2.1
  have hl : lv_has ls 3 [(0, .ref (ma 0)), (1, .int o), (2, .int n)] := hl
  have h6 := hcnt.R6
  have h3 := hcnt.S3
  have h16 := hcnt.T16
  have h10 := hcnt.O10
  refine lv_iload_n hx hb dX9_isLine_0 rfl (lv_at hl 1 rfl) ?_
  refine lv_aload_n hx hb dX9_isLine_1 rfl (lv_at hl 0 rfl) ?_
  refine ms_get hC hK hM 10 (by decide) fl_X9_153 rfl (v := .int (nI (nO M))) (congrArg Value.int (show M 10 0 = (nI (nO M)) from hcnt.O)) (fun q => rfl) dX9_isLine_2 ?_
  refine cl_p (run_S hC (c9_isIn l o (nI (nO M))) (As := [.int o, .int (nI (nO M))]) (rest := []) rfl rfl ml_X9_99 sm_X9_isIn ini_X9 cd_X9_isIn na_X9_isIn tB_blind (fun _ _ _ => trivial) hl.1 (Nat.le_of_ble_eq_true rfl) ⟨Nat.le_of_ble_eq_true rfl, Nat.le_of_ble_eq_true rfl⟩ ⟨Nat.le_refl _, Nat.le_refl _⟩ rfl dX9_isLine_5) ?_
  refine lb_eq (tgt := 28) (b := (inB o (nI (nO M)))) hx hb dX9_isLine_8 (by decide) (fun c_1t => ?_) (fun c_1f => ?_)
  · refine lv_iconst (v := 0) hx hb dX9_isLine_28 (by decide) ?_
    subst hQ
    exact rt_z hx hb hr hlk (by simp [lnB, bI, c_1t]) dX9_isLine_29
  · obtain ⟨j_o, hlt_o, rfl⟩ := inB_of (n := nO M) (by omega) c_1f
    have hix_o := ix_nI (n := j_o) (by omega)
    have hL3_o := hcnt.L3 (o := j_o) (by omega)
    refine lv_iload_n hx hb dX9_isLine_11 rfl (lv_at hl 2 rfl) ?_
    refine lv_aload_n hx hb dX9_isLine_12 rfl (lv_at hl 0 rfl) ?_
    refine ms_get hC hK hM 11 (by decide) fl_X9_29 rfl (v := .ref (ma 11)) rfl (fun q => rfl) dX9_isLine_13 ?_
    refine lv_iload_n hx hb dX9_isLine_16 rfl (lv_at hl 1 rfl) ?_
    refine ms_ild hC hK hM 11 (i := j_o) (show j_o < 10 from by omega) (by decide) rfl rfl (v := nI (nL M j_o)) (hcnt.L (by omega)) dX9_isLine_17 ?_
    refine cl_p (run_S hC (c9_isIn l n (nI (nL M j_o))) (As := [.int n, .int (nI (nL M j_o))]) (rest := []) rfl rfl ml_X9_99 sm_X9_isIn ini_X9 cd_X9_isIn na_X9_isIn tB_blind (fun _ _ _ => trivial) hl.1 (Nat.le_of_ble_eq_true rfl) ⟨Nat.le_of_ble_eq_true rfl, Nat.le_of_ble_eq_true rfl⟩ ⟨Nat.le_refl _, Nat.le_refl _⟩ rfl dX9_isLine_18) ?_
    refine lb_eq (tgt := 28) (b := (inB n (nI (nL M j_o)))) hx hb dX9_isLine_21 (by decide) (fun c_2t => ?_) (fun c_2f => ?_)
    · refine lv_iconst (v := 0) hx hb dX9_isLine_28 (by decide) ?_
      subst hQ
      exact rt_z hx hb hr hlk (by simp [lnB, bI, c_1f, hix_o, c_2t]) dX9_isLine_29
    · obtain ⟨j_n, hlt_n, rfl⟩ := inB_of (n := nL M j_o) (by omega) c_2f
      have hix_n := ix_nI (n := j_n) (by omega)
      refine lv_iconst (v := 1) hx hb dX9_isLine_24 (by decide) ?_
      refine lv_goto (tgt := 29) hx hb dX9_isLine_25 (by decide) ?_
      subst hQ
      exact rt_z hx hb hr hlk (by simp [lnB, bI, c_1f, hix_o, c_2f, hix_n]) dX9_isLine_29
set_option maxHeartbeats 4000000 in
set_option maxRecDepth 100000 in
theorem c9_isPick (l : Launch) (G : gG) (ma : Nat → Nat) (M : MS) (D : mD) (i : Int32) (hI : mI ma) (hpk : M 34 0 = nI (nP M)) (hpl : nP M ≤ 1500) : Met l yX9_isPick (wB yX9_isPick cX9_isPick 2 (some .boolean)) (rmL 2 0 0) (va_Pc [.ref (ma 0), .int i] (mB G ma M D)) (mQi G ma none (fun r M' => r = bI (inB i (nI (nP M))) ∧ M' = thr M (pT M i))) 0 0 (mA ma) := by
  refine st_N (own := RX9) (by decide +kernel) rfl (Nat.le_of_ble_eq_true rfl) ?_
  intro p e s m below meth c ls args Q hQ hC hr hlk hnm hl hP
  obtain ⟨hM, hK⟩ := hP
  have hx := hC.1
  have hb := hC.2.1
  have hl : lv_has ls 2 [(0, .ref (ma 0)), (1, .int i)] := hl
  have hS : va_S (mA ma) s.heap s.heap [] := va_S.rf
  obtain ⟨H, locs, hHe, hLe⟩ : ∃ (H : Heap) (locs : List Loc), H = s.heap ∧ locs = [] := ⟨_, _, rfl, rfl⟩
  rw [← hHe] at hM
  have hS : va_S (mA ma) s.heap H locs := by rw [hHe, hLe]; exact va_S.rf
  suffices hgo : W p l e (rmL 2 0 0) s m args below meth c H locs 0 0 Q (F0 m 0 ls []) by
    rw [hHe, hLe] at hgo
    exact hgo
  clear hHe hLe
  refine lv_aload_n hx hb dX9_isPick_0 rfl (lv_at hl 0 rfl) ?_
  refine lv_iload_n hx hb dX9_isPick_1 rfl (lv_at hl 1 rfl) ?_
  refine lv_aload_n hx hb dX9_isPick_2 rfl (lv_at hl 0 rfl) ?_
  refine ms_get hC hK hM 34 (by decide) fl_X9_168 rfl (v := .int (nI (nP M))) (congrArg Value.int (show M 34 0 = (nI (nP M)) from hpk)) (fun q => rfl) dX9_isPick_3 ?_
  refine cl_p (run_S hC (c9_isIn l i (nI (nP M))) (As := [.int i, .int (nI (nP M))]) (rest := [.ref (ma 0)]) rfl rfl ml_X9_99 sm_X9_isIn ini_X9 cd_X9_isIn na_X9_isIn tB_blind (fun _ _ _ => trivial) hl.1 (Nat.le_of_ble_eq_true rfl) ⟨Nat.le_of_ble_eq_true rfl, Nat.le_of_ble_eq_true rfl⟩ ⟨Nat.le_refl _, Nat.le_refl _⟩ rfl dX9_isPick_6) ?_
  refine lb_eq (tgt := 16) (b := (inB i (nI (nP M)))) hx hb dX9_isPick_9 (by decide) (fun c_1t => ?_) (fun c_1f => ?_)
  · refine lv_iconst (v := 1) hx hb dX9_isPick_16 (by decide) ?_
    refine mcl_i (run_V hC (c9_holds l G ma M D 1 hI) (As := [.int 1]) (rest := []) rfl rfl ml_X9_140 im_X9_holds se_X9_holds ini_X9 cd_X9_holds ⟨rfl, na_X9_holds⟩ mB_blind (mr_recv hK hM) (mr_B hK hM) hl.1 (Nat.le_of_ble_eq_true rfl) ⟨Nat.le_of_ble_eq_true rfl, Nat.le_of_ble_eq_true rfl⟩ ⟨Nat.le_refl _, Nat.le_refl _⟩ rfl dX9_isPick_17) hS (fun _ h => h) (fun r2 M2 H locs hp2 hM hS => ?_)
    obtain ⟨hr2, hm2⟩ := hp2
    rw [hm2] at hM
    refine top_i (y := 0) (hr2.trans (by decide)) ?_
    subst hQ
    exact rt_mz false hx hb hr hlk hM.none hS rfl  (by simp [pT, thr, bI, c_1t]) dX9_isPick_20
  · obtain ⟨j_i, hlt_i, rfl⟩ := inB_of (n := nP M) (by omega) c_1f
    have hix_i := ix_nI (n := j_i) (by omega)
    refine lv_iconst (v := 0) hx hb dX9_isPick_12 (by decide) ?_
    refine lv_goto (tgt := 17) hx hb dX9_isPick_13 (by decide) ?_
    refine mcl_i (run_V hC (c9_holds l G ma M D 0 hI) (As := [.int 0]) (rest := []) rfl rfl ml_X9_140 im_X9_holds se_X9_holds ini_X9 cd_X9_holds ⟨rfl, na_X9_holds⟩ mB_blind (mr_recv hK hM) (mr_B hK hM) hl.1 (Nat.le_of_ble_eq_true rfl) ⟨Nat.le_of_ble_eq_true rfl, Nat.le_of_ble_eq_true rfl⟩ ⟨Nat.le_refl _, Nat.le_refl _⟩ rfl dX9_isPick_17) hS (fun _ h => h) (fun r3 M3 H locs hp3 hM hS => ?_)
    obtain ⟨hr3, hm3⟩ := hp3
    rw [hm3] at hM
    refine top_i (y := 1) (hr3.trans (by decide)) ?_
    subst hQ
    exact rt_mz true hx hb hr hlk hM.none hS rfl  (by simp [pT, thr, bI, c_1f, hix_i]) dX9_isPick_20
set_option maxHeartbeats 4000000 in
set_option maxRecDepth 100000 in
theorem c9_wall (l : Launch) (G : gG) (ma : Nat → Nat) (M : MS) (D : mD) (x : Int32) (hI : mI ma) (hcnt : CNT M) : Met l yX9_wall (wB yX9_wall cX9_wall 4 none) (rmL 2 0 0) (va_Pc [.ref (ma 0), .int x] (mB G ma M D)) (mQv G ma none (fun M' => M' = wallF M x)) 0 0 (mA ma) := by
  refine st_N (own := RX9) (by decide +kernel) rfl (Nat.le_of_ble_eq_true rfl) ?_
  intro p e s m below meth c ls args Q hQ hC hr hlk hnm hl hP
  obtain ⟨hM, hK⟩ := hP
  have hx := hC.1
  have hb := hC.2.1
  have hl : lv_has ls 4 [(0, .ref (ma 0)), (1, .int x)] := hl
  have hS : va_S (mA ma) s.heap s.heap [] := va_S.rf
  obtain ⟨H, locs, hHe, hLe⟩ : ∃ (H : Heap) (locs : List Loc), H = s.heap ∧ locs = [] := ⟨_, _, rfl, rfl⟩
  rw [← hHe] at hM
  have hS : va_S (mA ma) s.heap H locs := by rw [hHe, hLe]; exact va_S.rf
  suffices hgo : W p l e (rmL 2 0 0) s m args below meth c H locs 0 0 Q (F0 m 0 ls []) by
    rw [hHe, hLe] at hgo
    exact hgo
  clear hHe hLe
  have h6 := hcnt.R6
  have h3 := hcnt.S3
  have h16 := hcnt.T16
  have h10 := hcnt.O10
  refine lv_iload_n hx hb dX9_wall_0 rfl (lv_at hl 1 rfl) ?_
  refine cl_p (run_S hC (c9_isCell l x) (As := [.int x]) (rest := []) rfl rfl ml_X9_131 sm_X9_isCell ini_X9 cd_X9_isCell na_X9_isCell tB_blind (fun _ _ _ => trivial) hl.1 (Nat.le_of_ble_eq_true rfl) ⟨Nat.le_of_ble_eq_true rfl, Nat.le_of_ble_eq_true rfl⟩ ⟨Nat.le_refl _, Nat.le_refl _⟩ rfl dX9_wall_1) ?_
  refine lv_istore_n (lv' := [(2, .int (bI (inB x 64))), (0, .ref (ma 0)), (1, .int x)]) hx hb dX9_wall_4 rfl hl (by decide) rfl (fun ls hl => ?_)
  refine lv_iload_n hx hb dX9_wall_5 rfl (lv_at hl 0 rfl) ?_
  refine lb_eq (tgt := 49) (b := (inB x 64)) hx hb dX9_wall_6 (by decide) (fun c_1t => ?_) (fun c_1f => ?_)
  · refine lv_iconst (v := 0) hx hb dX9_wall_49 (by decide) ?_
    refine lv_istore_n (lv' := [(3, .int 0), (2, .int (bI (inB x 64))), (0, .ref (ma 0)), (1, .int x)]) hx hb dX9_wall_50 rfl hl (by decide) rfl (fun ls hl => ?_)
    refine lv_aload_n hx hb dX9_wall_51 rfl (lv_at hl 2 rfl) ?_
    refine lv_iload_n hx hb dX9_wall_52 rfl (lv_at hl 1 rfl) ?_
    refine lb_ne (tgt := 60) (b := (inB x 64)) hx hb dX9_wall_53 (by decide) (fun c => by rw [c_1t] at c; cases c) (fun _ => ?_)
    refine lv_iconst (v := 1) hx hb dX9_wall_56 (by decide) ?_
    refine lv_goto (tgt := 69) hx hb dX9_wall_57 (by decide) ?_
    refine mcl_i (run_V hC (c9_holds l G ma M D 1 hI) (As := [.int 1]) (rest := []) rfl rfl ml_X9_140 im_X9_holds se_X9_holds ini_X9 cd_X9_holds ⟨rfl, na_X9_holds⟩ mB_blind (mr_recv hK hM) (mr_B hK hM) hl.1 (Nat.le_of_ble_eq_true rfl) ⟨Nat.le_of_ble_eq_true rfl, Nat.le_of_ble_eq_true rfl⟩ ⟨Nat.le_refl _, Nat.le_refl _⟩ rfl dX9_wall_69) hS (fun _ h => h) (fun r3 M3 H locs hp3 hM hS => ?_)
    obtain ⟨hr3, hm3⟩ := hp3
    rw [hm3] at hM
    refine top_i (y := 0) (hr3.trans (by decide)) ?_
    refine lv_if_eq (tgt := 82) hx hb dX9_wall_72 (by decide) (fun _ => ?_) (fun c => absurd c (by decide))
    subst hQ
    exact rt_mv hx hb hr hlk hM.none hS  (by simp [wallF, wallT, thr, oI_none, oI_some, c_1t]) dX9_wall_82
  · obtain ⟨j_x, hlt_x, rfl⟩ := inB_of (n := 64) (by decide) c_1f
    have hix_x := ix_nI (n := j_x) (by omega)
    refine lv_aload_n hx hb dX9_wall_9 rfl (lv_at hl 1 rfl) ?_
    refine ms_get hC hK hM 2 (by decide) fl_X9_7 rfl (v := .ref (ma 2)) rfl (fun q => rfl) dX9_wall_10 ?_
    refine lv_iload_n hx hb dX9_wall_13 rfl (lv_at hl 2 rfl) ?_
    refine ms_zld hC hK hM 2 (i := j_x) (show j_x < 64 from by omega) (by decide) rfl rfl (v := M 2 j_x) rfl dX9_wall_14 ?_
    refine lv_if_ne (tgt := 45) hx hb dX9_wall_15 (by decide) (fun c_5t => ?_) (fun c_5f => ?_)
    · refine lv_iconst (v := 1) hx hb dX9_wall_45 (by decide) ?_
      refine lv_goto (tgt := 50) hx hb dX9_wall_46 (by decide) ?_
      refine lv_istore_n (lv' := [(3, .int 1), (2, .int (bI (inB (nI j_x) 64))), (0, .ref (ma 0)), (1, .int (nI j_x))]) hx hb dX9_wall_50 rfl hl (by decide) rfl (fun ls hl => ?_)
      refine lv_aload_n hx hb dX9_wall_51 rfl (lv_at hl 2 rfl) ?_
      refine lv_iload_n hx hb dX9_wall_52 rfl (lv_at hl 1 rfl) ?_
      refine lb_ne (tgt := 60) (b := (inB (nI j_x) 64)) hx hb dX9_wall_53 (by decide) (fun _ => ?_) (fun c => by rw [c_1f] at c; cases c)
      refine lv_iload_n hx hb dX9_wall_60 rfl (lv_at hl 0 rfl) ?_
      refine lv_if_eq (tgt := 68) hx hb dX9_wall_61 (by decide) (fun c => absurd c (by decide)) (fun _ => ?_)
      refine lv_iconst (v := 2) hx hb dX9_wall_64 (by decide) ?_
      refine lv_goto (tgt := 69) hx hb dX9_wall_65 (by decide) ?_
      refine mcl_i (run_V hC (c9_holds l G ma M D 2 hI) (As := [.int 2]) (rest := []) rfl rfl ml_X9_140 im_X9_holds se_X9_holds ini_X9 cd_X9_holds ⟨rfl, na_X9_holds⟩ mB_blind (mr_recv hK hM) (mr_B hK hM) hl.1 (Nat.le_of_ble_eq_true rfl) ⟨Nat.le_of_ble_eq_true rfl, Nat.le_of_ble_eq_true rfl⟩ ⟨Nat.le_refl _, Nat.le_refl _⟩ rfl dX9_wall_69) hS (fun _ h => h) (fun r8 M8 H locs hp8 hM hS => ?_)
      obtain ⟨hr8, hm8⟩ := hp8
      rw [hm8] at hM
      refine top_i (y := 0) (hr8.trans (by decide)) ?_
      refine lv_if_eq (tgt := 82) hx hb dX9_wall_72 (by decide) (fun _ => ?_) (fun c => absurd c (by decide))
      subst hQ
      exact rt_mv hx hb hr hlk hM.none hS  (by simp [wallF, wallT, thr, oI_none, oI_some, c_1f, hix_x, c_5t]) dX9_wall_82
    · refine lv_aload_n hx hb dX9_wall_18 rfl (lv_at hl 1 rfl) ?_
      refine lv_iload_n hx hb dX9_wall_19 rfl (lv_at hl 2 rfl) ?_
      refine cl_p (run_V hC (c9_homeOf l G ma M D (nI j_x) hcnt) (As := [.int (nI j_x)]) (rest := []) rfl rfl ml_X9_134 im_X9_homeOf se_X9_homeOf ini_X9 cd_X9_homeOf ⟨rfl, na_X9_homeOf⟩ mB_blind (mr_recv hK hM) (mr_B hK hM) hl.1 (Nat.le_of_ble_eq_true rfl) ⟨Nat.le_of_ble_eq_true rfl, Nat.le_of_ble_eq_true rfl⟩ ⟨Nat.le_refl _, Nat.le_refl _⟩ rfl dX9_wall_20) ?_
      rcases ho10 : hmA M (nI j_x) with _ | k10
      · refine top_i (y := -1) rfl ?_
        refine lv_iconst (v := (-1)) hx hb dX9_wall_23 (by decide) ?_
        refine lv_icmp_ne (tgt := 45) hx hb dX9_wall_24 (by decide) (fun c => absurd c (by decide)) (fun _ => ?_)
        refine lv_aload_n hx hb dX9_wall_27 rfl (lv_at hl 1 rfl) ?_
        refine lv_iload_n hx hb dX9_wall_28 rfl (lv_at hl 2 rfl) ?_
        refine cl_p (run_V hC (c9_stationAt l G ma M D (nI j_x) hcnt) (As := [.int (nI j_x)]) (rest := []) rfl rfl ml_X9_137 im_X9_stationAt se_X9_stationAt ini_X9 cd_X9_stationAt ⟨rfl, na_X9_stationAt⟩ mB_blind (mr_recv hK hM) (mr_B hK hM) hl.1 (Nat.le_of_ble_eq_true rfl) ⟨Nat.le_of_ble_eq_true rfl, Nat.le_of_ble_eq_true rfl⟩ ⟨Nat.le_refl _, Nat.le_refl _⟩ rfl dX9_wall_29) ?_
        rcases ho12 : stA M (nI j_x) with _ | k12
        · refine top_i (y := -1) rfl ?_
          refine lv_iconst (v := (-1)) hx hb dX9_wall_32 (by decide) ?_
          refine lv_icmp_ne (tgt := 45) hx hb dX9_wall_33 (by decide) (fun c => absurd c (by decide)) (fun _ => ?_)
          refine lv_aload_n hx hb dX9_wall_36 rfl (lv_at hl 1 rfl) ?_
          refine lv_iload_n hx hb dX9_wall_37 rfl (lv_at hl 2 rfl) ?_
          refine cl_p (run_V hC (c9_robotAt l G ma M D (nI j_x) hcnt) (As := [.int (nI j_x)]) (rest := []) rfl rfl ml_X9_112 im_X9_robotAt se_X9_robotAt ini_X9 cd_X9_robotAt ⟨rfl, na_X9_robotAt⟩ mB_blind (mr_recv hK hM) (mr_B hK hM) hl.1 (Nat.le_of_ble_eq_true rfl) ⟨Nat.le_of_ble_eq_true rfl, Nat.le_of_ble_eq_true rfl⟩ ⟨Nat.le_refl _, Nat.le_refl _⟩ rfl dX9_wall_38) ?_
          rcases ho14 : rbA M (nI j_x) with _ | k14
          · refine top_i (y := -1) rfl ?_
            refine lv_iconst (v := (-1)) hx hb dX9_wall_41 (by decide) ?_
            refine lv_icmp_eq (tgt := 49) hx hb dX9_wall_42 (by decide) (fun _ => ?_) (fun c => absurd c (by decide))
            refine lv_iconst (v := 0) hx hb dX9_wall_49 (by decide) ?_
            refine lv_istore_n (lv' := [(3, .int 0), (2, .int (bI (inB (nI j_x) 64))), (0, .ref (ma 0)), (1, .int (nI j_x))]) hx hb dX9_wall_50 rfl hl (by decide) rfl (fun ls hl => ?_)
            refine lv_aload_n hx hb dX9_wall_51 rfl (lv_at hl 2 rfl) ?_
            refine lv_iload_n hx hb dX9_wall_52 rfl (lv_at hl 1 rfl) ?_
            refine lb_ne (tgt := 60) (b := (inB (nI j_x) 64)) hx hb dX9_wall_53 (by decide) (fun _ => ?_) (fun c => by rw [c_1f] at c; cases c)
            refine lv_iload_n hx hb dX9_wall_60 rfl (lv_at hl 0 rfl) ?_
            refine lv_if_eq (tgt := 68) hx hb dX9_wall_61 (by decide) (fun _ => ?_) (fun c => absurd c (by decide))
            refine lv_iconst (v := 0) hx hb dX9_wall_68 (by decide) ?_
            refine mcl_i (run_V hC (c9_holds l G ma M D 0 hI) (As := [.int 0]) (rest := []) rfl rfl ml_X9_140 im_X9_holds se_X9_holds ini_X9 cd_X9_holds ⟨rfl, na_X9_holds⟩ mB_blind (mr_recv hK hM) (mr_B hK hM) hl.1 (Nat.le_of_ble_eq_true rfl) ⟨Nat.le_of_ble_eq_true rfl, Nat.le_of_ble_eq_true rfl⟩ ⟨Nat.le_refl _, Nat.le_refl _⟩ rfl dX9_wall_69) hS (fun _ h => h) (fun r18 M18 H locs hp18 hM hS => ?_)
            obtain ⟨hr18, hm18⟩ := hp18
            rw [hm18] at hM
            refine top_i (y := 1) (hr18.trans (by decide)) ?_
            refine lv_if_eq (tgt := 82) hx hb dX9_wall_72 (by decide) (fun c => absurd c (by decide)) (fun _ => ?_)
            refine lv_aload_n hx hb dX9_wall_75 rfl (lv_at hl 2 rfl) ?_
            refine ms_get hC hK hM 2 (by decide) fl_X9_7 rfl (v := .ref (ma 2)) rfl (fun q => rfl) dX9_wall_76 ?_
            refine lv_iload_n hx hb dX9_wall_79 rfl (lv_at hl 3 rfl) ?_
            refine lv_iconst (v := 1) hx hb dX9_wall_80 (by decide) ?_
            refine ms_zst hC hK hI hM hS 2 (mA_k (by decide)) (i := j_x) (show j_x < 64 from by omega) rfl rfl true rfl dX9_wall_81 (fun H locs hM hS => ?_)
            subst hQ
            exact rt_mv hx hb hr hlk hM.none hS  (by simp [wallF, wallT, thr, oI_none, oI_some, c_1f, hix_x, c_5f, ho10, ho12, ho14]) dX9_wall_82
          · refine top_i (y := nI k14) rfl ?_
            have hlt_k14 := (lastE_lt ho14).1
            refine lv_iconst (v := (-1)) hx hb dX9_wall_41 (by decide) ?_
            refine lv_icmp_eq (tgt := 49) hx hb dX9_wall_42 (by decide) (fun c => absurd c (nI_m1 (by omega))) (fun _ => ?_)
            refine lv_iconst (v := 1) hx hb dX9_wall_45 (by decide) ?_
            refine lv_goto (tgt := 50) hx hb dX9_wall_46 (by decide) ?_
            refine lv_istore_n (lv' := [(3, .int 1), (2, .int (bI (inB (nI j_x) 64))), (0, .ref (ma 0)), (1, .int (nI j_x))]) hx hb dX9_wall_50 rfl hl (by decide) rfl (fun ls hl => ?_)
            refine lv_aload_n hx hb dX9_wall_51 rfl (lv_at hl 2 rfl) ?_
            refine lv_iload_n hx hb dX9_wall_52 rfl (lv_at hl 1 rfl) ?_
            refine lb_ne (tgt := 60) (b := (inB (nI j_x) 64)) hx hb dX9_wall_53 (by decide) (fun _ => ?_) (fun c => by rw [c_1f] at c; cases c)
            refine lv_iload_n hx hb dX9_wall_60 rfl (lv_at hl 0 rfl) ?_
            refine lv_if_eq (tgt := 68) hx hb dX9_wall_61 (by decide) (fun c => absurd c (by decide)) (fun _ => ?_)
            refine lv_iconst (v := 2) hx hb dX9_wall_64 (by decide) ?_
            refine lv_goto (tgt := 69) hx hb dX9_wall_65 (by decide) ?_
            refine mcl_i (run_V hC (c9_holds l G ma M D 2 hI) (As := [.int 2]) (rest := []) rfl rfl ml_X9_140 im_X9_holds se_X9_holds ini_X9 cd_X9_holds ⟨rfl, na_X9_holds⟩ mB_blind (mr_recv hK hM) (mr_B hK hM) hl.1 (Nat.le_of_ble_eq_true rfl) ⟨Nat.le_of_ble_eq_true rfl, Nat.le_of_ble_eq_true rfl⟩ ⟨Nat.le_refl _, Nat.le_refl _⟩ rfl dX9_wall_69) hS (fun _ h => h) (fun r23 M23 H locs hp23 hM hS => ?_)
            obtain ⟨hr23, hm23⟩ := hp23
            rw [hm23] at hM
            refine top_i (y := 0) (hr23.trans (by decide)) ?_
            refine lv_if_eq (tgt := 82) hx hb dX9_wall_72 (by decide) (fun _ => ?_) (fun c => absurd c (by decide))
            subst hQ
            exact rt_mv hx hb hr hlk hM.none hS  (by simp [wallF, wallT, thr, oI_none, oI_some, c_1f, hix_x, c_5f, ho10, ho12, ho14]) dX9_wall_82
        · refine top_i (y := nI k12) rfl ?_
          have hlt_k12 := (lastE_lt ho12).1
          refine lv_iconst (v := (-1)) hx hb dX9_wall_32 (by decide) ?_
          refine lv_icmp_ne (tgt := 45) hx hb dX9_wall_33 (by decide) (fun _ => ?_) (fun c => absurd c (nI_m1 (by omega)))
          refine lv_iconst (v := 1) hx hb dX9_wall_45 (by decide) ?_
          refine lv_goto (tgt := 50) hx hb dX9_wall_46 (by decide) ?_
          refine lv_istore_n (lv' := [(3, .int 1), (2, .int (bI (inB (nI j_x) 64))), (0, .ref (ma 0)), (1, .int (nI j_x))]) hx hb dX9_wall_50 rfl hl (by decide) rfl (fun ls hl => ?_)
          refine lv_aload_n hx hb dX9_wall_51 rfl (lv_at hl 2 rfl) ?_
          refine lv_iload_n hx hb dX9_wall_52 rfl (lv_at hl 1 rfl) ?_
          refine lb_ne (tgt := 60) (b := (inB (nI j_x) 64)) hx hb dX9_wall_53 (by decide) (fun _ => ?_) (fun c => by rw [c_1f] at c; cases c)
          refine lv_iload_n hx hb dX9_wall_60 rfl (lv_at hl 0 rfl) ?_
          refine lv_if_eq (tgt := 68) hx hb dX9_wall_61 (by decide) (fun c => absurd c (by decide)) (fun _ => ?_)
          refine lv_iconst (v := 2) hx hb dX9_wall_64 (by decide) ?_
          refine lv_goto (tgt := 69) hx hb dX9_wall_65 (by decide) ?_
          refine mcl_i (run_V hC (c9_holds l G ma M D 2 hI) (As := [.int 2]) (rest := []) rfl rfl ml_X9_140 im_X9_holds se_X9_holds ini_X9 cd_X9_holds ⟨rfl, na_X9_holds⟩ mB_blind (mr_recv hK hM) (mr_B hK hM) hl.1 (Nat.le_of_ble_eq_true rfl) ⟨Nat.le_of_ble_eq_true rfl, Nat.le_of_ble_eq_true rfl⟩ ⟨Nat.le_refl _, Nat.le_refl _⟩ rfl dX9_wall_69) hS (fun _ h => h) (fun r28 M28 H locs hp28 hM hS => ?_)
          obtain ⟨hr28, hm28⟩ := hp28
          rw [hm28] at hM
          refine top_i (y := 0) (hr28.trans (by decide)) ?_
          refine lv_if_eq (tgt := 82) hx hb dX9_wall_72 (by decide) (fun _ => ?_) (fun c => absurd c (by decide))
          subst hQ
          exact rt_mv hx hb hr hlk hM.none hS  (by simp [wallF, wallT, thr, oI_none, oI_some, c_1f, hix_x, c_5f, ho10, ho12]) dX9_wall_82
      · refine top_i (y := nI k10) rfl ?_
        have hlt_k10 := (lastE_lt ho10).1
        refine lv_iconst (v := (-1)) hx hb dX9_wall_23 (by decide) ?_
        refine lv_icmp_ne (tgt := 45) hx hb dX9_wall_24 (by decide) (fun _ => ?_) (fun c => absurd c (nI_m1 (by omega)))
        refine lv_iconst (v := 1) hx hb dX9_wall_45 (by decide) ?_
        refine lv_goto (tgt := 50) hx hb dX9_wall_46 (by decide) ?_
        refine lv_istore_n (lv' := [(3, .int 1), (2, .int (bI (inB (nI j_x) 64))), (0, .ref (ma 0)), (1, .int (nI j_x))]) hx hb dX9_wall_50 rfl hl (by decide) rfl (fun ls hl => ?_)
        refine lv_aload_n hx hb dX9_wall_51 rfl (lv_at hl 2 rfl) ?_
        refine lv_iload_n hx hb dX9_wall_52 rfl (lv_at hl 1 rfl) ?_
        refine lb_ne (tgt := 60) (b := (inB (nI j_x) 64)) hx hb dX9_wall_53 (by decide) (fun _ => ?_) (fun c => by rw [c_1f] at c; cases c)
        refine lv_iload_n hx hb dX9_wall_60 rfl (lv_at hl 0 rfl) ?_
        refine lv_if_eq (tgt := 68) hx hb dX9_wall_61 (by decide) (fun c => absurd c (by decide)) (fun _ => ?_)
        refine lv_iconst (v := 2) hx hb dX9_wall_64 (by decide) ?_
        refine lv_goto (tgt := 69) hx hb dX9_wall_65 (by decide) ?_
        refine mcl_i (run_V hC (c9_holds l G ma M D 2 hI) (As := [.int 2]) (rest := []) rfl rfl ml_X9_140 im_X9_holds se_X9_holds ini_X9 cd_X9_holds ⟨rfl, na_X9_holds⟩ mB_blind (mr_recv hK hM) (mr_B hK hM) hl.1 (Nat.le_of_ble_eq_true rfl) ⟨Nat.le_of_ble_eq_true rfl, Nat.le_of_ble_eq_true rfl⟩ ⟨Nat.le_refl _, Nat.le_refl _⟩ rfl dX9_wall_69) hS (fun _ h => h) (fun r33 M33 H locs hp33 hM hS => ?_)
        obtain ⟨hr33, hm33⟩ := hp33
        rw [hm33] at hM
        refine top_i (y := 0) (hr33.trans (by decide)) ?_
        refine lv_if_eq (tgt := 82) hx hb dX9_wall_72 (by decide) (fun _ => ?_) (fun c => absurd c (by decide))
        subst hQ
        exact rt_mv hx hb hr hlk hM.none hS  (by simp [wallF, wallT, thr, oI_none, oI_some, c_1f, hix_x, c_5f, ho10]) dX9_wall_82
set_option maxHeartbeats 4000000 in
set_option maxRecDepth 100000 in
theorem c9_setClosed (l : Launch) (G : gG) (ma : Nat → Nat) (M : MS) (D : mD) (x : Int32) (b : Bool) (hI : mI ma) (hcnt : CNT M) (hb3 : ∀ j, j < 64 → M 3 j = bI (decide (¬ M 3 j = 0))) : Met l yX9_setClosed (wB yX9_setClosed cX9_setClosed 4 (some .boolean)) (rmL 2 0 0) (va_Pc [.ref (ma 0), .int x, .int (bI b)] (mB G ma M D)) (mQi G ma none (fun r M' => r = bI (closeR M x) ∧ M' = closeF M x b)) 0 0 (mA ma) := by
  refine st_N (own := RX9) (by decide +kernel) rfl (Nat.le_of_ble_eq_true rfl) ?_
  intro p e s m below meth c ls args Q hQ hC hr hlk hnm hl hP
  obtain ⟨hM, hK⟩ := hP
  have hx := hC.1
  have hb := hC.2.1
  have hl : lv_has ls 4 [(0, .ref (ma 0)), (1, .int x), (2, .int (bI b))] := hl
  have hS : va_S (mA ma) s.heap s.heap [] := va_S.rf
  obtain ⟨H, locs, hHe, hLe⟩ : ∃ (H : Heap) (locs : List Loc), H = s.heap ∧ locs = [] := ⟨_, _, rfl, rfl⟩
  rw [← hHe] at hM
  have hS : va_S (mA ma) s.heap H locs := by rw [hHe, hLe]; exact va_S.rf
  suffices hgo : W p l e (rmL 2 0 0) s m args below meth c H locs 0 0 Q (F0 m 0 ls []) by
    rw [hHe, hLe] at hgo
    exact hgo
  clear hHe hLe
  have h6 := hcnt.R6
  have h3 := hcnt.S3
  have h16 := hcnt.T16
  have h10 := hcnt.O10
  refine lv_aload_n hx hb dX9_setClosed_0 rfl (lv_at hl 0 rfl) ?_
  refine lv_iload_n hx hb dX9_setClosed_1 rfl (lv_at hl 1 rfl) ?_
  refine cl_p (run_S hC (c9_isCell l x) (As := [.int x]) (rest := [.ref (ma 0)]) rfl rfl ml_X9_131 sm_X9_isCell ini_X9 cd_X9_isCell na_X9_isCell tB_blind (fun _ _ _ => trivial) hl.1 (Nat.le_of_ble_eq_true rfl) ⟨Nat.le_of_ble_eq_true rfl, Nat.le_of_ble_eq_true rfl⟩ ⟨Nat.le_refl _, Nat.le_refl _⟩ rfl dX9_setClosed_2) ?_
  refine lb_eq (tgt := 12) (b := (inB x 64)) hx hb dX9_setClosed_5 (by decide) (fun c_1t => ?_) (fun c_1f => ?_)
  · refine lv_iconst (v := 1) hx hb dX9_setClosed_12 (by decide) ?_
    refine mcl_i (run_V hC (c9_holds l G ma M D 1 hI) (As := [.int 1]) (rest := []) rfl rfl ml_X9_140 im_X9_holds se_X9_holds ini_X9 cd_X9_holds ⟨rfl, na_X9_holds⟩ mB_blind (mr_recv hK hM) (mr_B hK hM) hl.1 (Nat.le_of_ble_eq_true rfl) ⟨Nat.le_of_ble_eq_true rfl, Nat.le_of_ble_eq_true rfl⟩ ⟨Nat.le_refl _, Nat.le_refl _⟩ rfl dX9_setClosed_13) hS (fun _ h => h) (fun r2 M2 H locs hp2 hM hS => ?_)
    obtain ⟨hr2, hm2⟩ := hp2
    rw [hm2] at hM
    refine top_i (y := 0) (hr2.trans (by decide)) ?_
    refine lv_if_ne (tgt := 21) hx hb dX9_setClosed_16 (by decide) (fun c => absurd c (by decide)) (fun _ => ?_)
    refine lv_iconst (v := 0) hx hb dX9_setClosed_19 (by decide) ?_
    subst hQ
    exact rt_mz false hx hb hr hlk hM.none hS rfl  (by simp [closeF, closeR, cellT, bI, thr, oI_none, oI_some, c_1t]) dX9_setClosed_20
  · obtain ⟨j_x, hlt_x, rfl⟩ := inB_of (n := 64) (by decide) c_1f
    have hix_x := ix_nI (n := j_x) (by omega)
    refine lv_iconst (v := 0) hx hb dX9_setClosed_8 (by decide) ?_
    refine lv_goto (tgt := 13) hx hb dX9_setClosed_9 (by decide) ?_
    refine mcl_i (run_V hC (c9_holds l G ma M D 0 hI) (As := [.int 0]) (rest := []) rfl rfl ml_X9_140 im_X9_holds se_X9_holds ini_X9 cd_X9_holds ⟨rfl, na_X9_holds⟩ mB_blind (mr_recv hK hM) (mr_B hK hM) hl.1 (Nat.le_of_ble_eq_true rfl) ⟨Nat.le_of_ble_eq_true rfl, Nat.le_of_ble_eq_true rfl⟩ ⟨Nat.le_refl _, Nat.le_refl _⟩ rfl dX9_setClosed_13) hS (fun _ h => h) (fun r4 M4 H locs hp4 hM hS => ?_)
    obtain ⟨hr4, hm4⟩ := hp4
    rw [hm4] at hM
    refine top_i (y := 1) (hr4.trans (by decide)) ?_
    refine lv_if_ne (tgt := 21) hx hb dX9_setClosed_16 (by decide) (fun _ => ?_) (fun c => absurd c (by decide))
    refine lv_aload_n hx hb dX9_setClosed_21 rfl (lv_at hl 0 rfl) ?_
    refine ms_get hC hK hM 3 (by decide) fl_X9_13 rfl (v := .ref (ma 3)) rfl (fun q => rfl) dX9_setClosed_22 ?_
    refine lv_iload_n hx hb dX9_setClosed_25 rfl (lv_at hl 1 rfl) ?_
    refine ms_zld hC hK hM 3 (i := j_x) (show j_x < 64 from by omega) (by decide) rfl rfl (v := bI (decide (¬ M 3 j_x = 0))) (hb3 _ (by omega)) dX9_setClosed_26 ?_
    refine lv_istore_n (lv' := [(3, .int (bI (decide (¬ M 3 j_x = 0)))), (0, .ref (ma 0)), (1, .int (nI j_x)), (2, .int (bI b))]) hx hb dX9_setClosed_27 rfl hl (by decide) rfl (fun ls hl => ?_)
    refine lv_aload_n hx hb dX9_setClosed_28 rfl (lv_at hl 1 rfl) ?_
    refine ms_get hC hK hM 3 (by decide) fl_X9_13 rfl (v := .ref (ma 3)) rfl (fun q => rfl) dX9_setClosed_29 ?_
    refine lv_iload_n hx hb dX9_setClosed_32 rfl (lv_at hl 2 rfl) ?_
    refine lv_iload_n hx hb dX9_setClosed_33 rfl (lv_at hl 3 rfl) ?_
    refine ms_zst hC hK hI hM hS 3 (mA_k (by decide)) (i := j_x) (show j_x < 64 from by omega) rfl rfl b rfl dX9_setClosed_34 (fun H locs hM hS => ?_)
    refine lv_iload_n hx hb dX9_setClosed_35 rfl (lv_at hl 0 rfl) ?_
    subst hQ
    exact rt_mz (decide (¬ M 3 j_x = 0)) hx hb hr hlk hM.none hS rfl  (by simp [closeF, closeR, cellT, bI, thr, oI_none, oI_some, c_1f, hix_x]) dX9_setClosed_36
set_option maxHeartbeats 4000000 in
set_option maxRecDepth 100000 in
theorem c9_distance (l : Launch) (G : gG) (ma : Nat → Nat) (M : MS) (D : mD) (x : Int32) (y : Int32) (hI : mI ma) (hcnt : CNT M) : Met l yX9_distance (wB yX9_distance cX9_distance 3 (some .int)) (rmL 4 0 0) (va_Pc [.ref (ma 0), .int x, .int y] (mB G ma M D)) (mQi G ma none (fun r M' => r = distR M x y ∧ M' = thr M (distT x y))) 0 0 (mA ma) := by
  refine st_N (own := RX9) (by decide +kernel) rfl (Nat.le_of_ble_eq_true rfl) ?_
  intro p e s m below meth c ls args Q hQ hC hr hlk hnm hl hP
  obtain ⟨hM, hK⟩ := hP
  have hx := hC.1
  have hb := hC.2.1
  have hl : lv_has ls 3 [(0, .ref (ma 0)), (1, .int x), (2, .int y)] := hl
  have hS : va_S (mA ma) s.heap s.heap [] := va_S.rf
  obtain ⟨H, locs, hHe, hLe⟩ : ∃ (H : Heap) (locs : List Loc), H = s.heap ∧ locs = [] := ⟨_, _, rfl, rfl⟩
  rw [← hHe] at hM
  have hS : va_S (mA ma) s.heap H locs := by rw [hHe, hLe]; exact va_S.rf
  suffices hgo : W p l e (rmL 4 0 0) s m args below meth c H locs 0 0 Q (F0 m 0 ls []) by
    rw [hHe, hLe] at hgo
    exact hgo
  clear hHe hLe
  have h6 := hcnt.R6
  have h3 := hcnt.S3
  have h16 := hcnt.T16
  have h10 := hcnt.O10
  refine lv_aload_n hx hb dX9_distance_0 rfl (lv_at hl 0 rfl) ?_
  refine lv_iload_n hx hb dX9_distance_1 rfl (lv_at hl 1 rfl) ?_
  refine cl_p (run_S hC (c9_isCell l x) (As := [.int x]) (rest := [.ref (ma 0)]) rfl rfl ml_X9_131 sm_X9_isCell ini_X9 cd_X9_isCell na_X9_isCell tB_blind (fun _ _ _ => trivial) hl.1 (Nat.le_of_ble_eq_true rfl) ⟨Nat.le_of_ble_eq_true rfl, Nat.le_of_ble_eq_true rfl⟩ ⟨Nat.le_refl _, Nat.le_refl _⟩ rfl dX9_distance_2) ?_
  refine lb_eq (tgt := 19) (b := (inB x 64)) hx hb dX9_distance_5 (by decide) (fun c_1t => ?_) (fun c_1f => ?_)
  · refine lv_iconst (v := 1) hx hb dX9_distance_19 (by decide) ?_
    refine mcl_i (run_V hC (c9_holds l G ma M D 1 hI) (As := [.int 1]) (rest := []) rfl rfl ml_X9_140 im_X9_holds se_X9_holds ini_X9 cd_X9_holds ⟨rfl, na_X9_holds⟩ mB_blind (mr_recv hK hM) (mr_B hK hM) hl.1 (Nat.le_of_ble_eq_true rfl) ⟨Nat.le_of_ble_eq_true rfl, Nat.le_of_ble_eq_true rfl⟩ ⟨Nat.le_refl _, Nat.le_refl _⟩ rfl dX9_distance_20) hS (fun _ h => h) (fun r2 M2 H locs hp2 hM hS => ?_)
    obtain ⟨hr2, hm2⟩ := hp2
    rw [hm2] at hM
    refine top_i (y := 0) (hr2.trans (by decide)) ?_
    refine lv_if_eq (tgt := 35) hx hb dX9_distance_23 (by decide) (fun _ => ?_) (fun c => absurd c (by decide))
    refine lv_iconst (v := 0) hx hb dX9_distance_35 (by decide) ?_
    subst hQ
    exact rt_mi hx hb hr hlk hM.none hS  (by simp [distR, distT, dGM_thr, thr, oI_none, oI_some, c_1t]) dX9_distance_36
  · obtain ⟨j_x, hlt_x, rfl⟩ := inB_of (n := 64) (by decide) c_1f
    have hix_x := ix_nI (n := j_x) (by omega)
    refine lv_iload_n hx hb dX9_distance_8 rfl (lv_at hl 2 rfl) ?_
    refine cl_p (run_S hC (c9_isCell l y) (As := [.int y]) (rest := [.ref (ma 0)]) rfl rfl ml_X9_131 sm_X9_isCell ini_X9 cd_X9_isCell na_X9_isCell tB_blind (fun _ _ _ => trivial) hl.1 (Nat.le_of_ble_eq_true rfl) ⟨Nat.le_of_ble_eq_true rfl, Nat.le_of_ble_eq_true rfl⟩ ⟨Nat.le_refl _, Nat.le_refl _⟩ rfl dX9_distance_9) ?_
    refine lb_eq (tgt := 19) (b := (inB y 64)) hx hb dX9_distance_12 (by decide) (fun c_4t => ?_) (fun c_4f => ?_)
    · refine lv_iconst (v := 1) hx hb dX9_distance_19 (by decide) ?_
      refine mcl_i (run_V hC (c9_holds l G ma M D 1 hI) (As := [.int 1]) (rest := []) rfl rfl ml_X9_140 im_X9_holds se_X9_holds ini_X9 cd_X9_holds ⟨rfl, na_X9_holds⟩ mB_blind (mr_recv hK hM) (mr_B hK hM) hl.1 (Nat.le_of_ble_eq_true rfl) ⟨Nat.le_of_ble_eq_true rfl, Nat.le_of_ble_eq_true rfl⟩ ⟨Nat.le_refl _, Nat.le_refl _⟩ rfl dX9_distance_20) hS (fun _ h => h) (fun r5 M5 H locs hp5 hM hS => ?_)
      obtain ⟨hr5, hm5⟩ := hp5
      rw [hm5] at hM
      refine top_i (y := 0) (hr5.trans (by decide)) ?_
      refine lv_if_eq (tgt := 35) hx hb dX9_distance_23 (by decide) (fun _ => ?_) (fun c => absurd c (by decide))
      refine lv_iconst (v := 0) hx hb dX9_distance_35 (by decide) ?_
      subst hQ
      exact rt_mi hx hb hr hlk hM.none hS  (by simp [distR, distT, dGM_thr, thr, oI_none, oI_some, c_1f, hix_x, c_4t]) dX9_distance_36
    · obtain ⟨j_y, hlt_y, rfl⟩ := inB_of (n := 64) (by decide) c_4f
      have hix_y := ix_nI (n := j_y) (by omega)
      refine lv_iconst (v := 0) hx hb dX9_distance_15 (by decide) ?_
      refine lv_goto (tgt := 20) hx hb dX9_distance_16 (by decide) ?_
      refine mcl_i (run_V hC (c9_holds l G ma M D 0 hI) (As := [.int 0]) (rest := []) rfl rfl ml_X9_140 im_X9_holds se_X9_holds ini_X9 cd_X9_holds ⟨rfl, na_X9_holds⟩ mB_blind (mr_recv hK hM) (mr_B hK hM) hl.1 (Nat.le_of_ble_eq_true rfl) ⟨Nat.le_of_ble_eq_true rfl, Nat.le_of_ble_eq_true rfl⟩ ⟨Nat.le_refl _, Nat.le_refl _⟩ rfl dX9_distance_20) hS (fun _ h => h) (fun r7 M7 H locs hp7 hM hS => ?_)
      obtain ⟨hr7, hm7⟩ := hp7
      rw [hm7] at hM
      refine top_i (y := 1) (hr7.trans (by decide)) ?_
      refine lv_if_eq (tgt := 35) hx hb dX9_distance_23 (by decide) (fun c => absurd c (by decide)) (fun _ => ?_)
      refine lv_aload_n hx hb dX9_distance_26 rfl (lv_at hl 0 rfl) ?_
      refine lv_iload_n hx hb dX9_distance_27 rfl (lv_at hl 1 rfl) ?_
      refine lv_iload_n hx hb dX9_distance_28 rfl (lv_at hl 2 rfl) ?_
      refine mcl_i (run_V hC (c9_distanceOf l G ma (mset M 0 0 0) none j_x j_y hI (hcnt.set rfl) (by omega) (by omega)) (As := [.int (nI j_x), .int (nI j_y)]) (rest := []) rfl rfl ml_X9_143 im_X9_distanceOf se_X9_distanceOf ini_X9 cd_X9_distanceOf ⟨rfl, na_X9_distanceOf⟩ mB_blind (mr_recv hK hM) (mr_B hK hM) hl.1 (Nat.le_of_ble_eq_true rfl) ⟨Nat.le_of_ble_eq_true rfl, Nat.le_of_ble_eq_true rfl⟩ ⟨Nat.le_refl _, Nat.le_refl _⟩ rfl dX9_distance_29) hS (fun _ h => h) (fun r9 M9 H locs hp9 hM hS => ?_)
      obtain ⟨hr9, hm9⟩ := hp9
      rw [hm9] at hM
      refine top_i (y := oI (dGM (mset M 0 0 0) j_x j_y)) hr9 ?_
      refine lv_goto (tgt := 36) hx hb dX9_distance_32 (by decide) ?_
      subst hQ
      exact rt_mi hx hb hr hlk hM.none hS  (by simp [distR, distT, dGM_thr, thr, oI_none, oI_some, c_1f, hix_x, c_4f, hix_y]) dX9_distance_36
set_option maxHeartbeats 4000000 in
set_option maxRecDepth 100000 in
theorem c9_addStation (l : Launch) (G : gG) (ma : Nat → Nat) (M : MS) (D : mD) (x : Int32) (hI : mI ma) (hcnt : CNT M) : Met l yX9_addStation (wB yX9_addStation cX9_addStation 3 (some .int)) (rmL 2 0 0) (va_Pc [.ref (ma 0), .int x] (mB G ma M D)) (mQi G ma none (fun r M' => r = stnR M x ∧ M' = stnF M x)) 0 0 (mA ma) := by
  refine st_N (own := RX9) (by decide +kernel) rfl (Nat.le_of_ble_eq_true rfl) ?_
  intro p e s m below meth c ls args Q hQ hC hr hlk hnm hl hP
  obtain ⟨hM, hK⟩ := hP
  have hx := hC.1
  have hb := hC.2.1
  have hl : lv_has ls 3 [(0, .ref (ma 0)), (1, .int x)] := hl
  have hS : va_S (mA ma) s.heap s.heap [] := va_S.rf
  obtain ⟨H, locs, hHe, hLe⟩ : ∃ (H : Heap) (locs : List Loc), H = s.heap ∧ locs = [] := ⟨_, _, rfl, rfl⟩
  rw [← hHe] at hM
  have hS : va_S (mA ma) s.heap H locs := by rw [hHe, hLe]; exact va_S.rf
  suffices hgo : W p l e (rmL 2 0 0) s m args below meth c H locs 0 0 Q (F0 m 0 ls []) by
    rw [hHe, hLe] at hgo
    exact hgo
  clear hHe hLe
  have h6 := hcnt.R6
  have h3 := hcnt.S3
  have h16 := hcnt.T16
  have h10 := hcnt.O10
  refine lv_iload_n hx hb dX9_addStation_0 rfl (lv_at hl 1 rfl) ?_
  refine cl_p (run_S hC (c9_isCell l x) (As := [.int x]) (rest := []) rfl rfl ml_X9_131 sm_X9_isCell ini_X9 cd_X9_isCell na_X9_isCell tB_blind (fun _ _ _ => trivial) hl.1 (Nat.le_of_ble_eq_true rfl) ⟨Nat.le_of_ble_eq_true rfl, Nat.le_of_ble_eq_true rfl⟩ ⟨Nat.le_refl _, Nat.le_refl _⟩ rfl dX9_addStation_1) ?_
  refine lv_istore_n (lv' := [(2, .int (bI (inB x 64))), (0, .ref (ma 0)), (1, .int x)]) hx hb dX9_addStation_4 rfl hl (by decide) rfl (fun ls hl => ?_)
  refine lv_aload_n hx hb dX9_addStation_5 rfl (lv_at hl 1 rfl) ?_
  refine lv_iload_n hx hb dX9_addStation_6 rfl (lv_at hl 0 rfl) ?_
  refine lb_ne (tgt := 14) (b := (inB x 64)) hx hb dX9_addStation_7 (by decide) (fun c_1t => ?_) (fun c_1f => ?_)
  · obtain ⟨j_x, hlt_x, rfl⟩ := inB_of (n := 64) (by decide) c_1t
    have hix_x := ix_nI (n := j_x) (by omega)
    refine lv_aload_n hx hb dX9_addStation_14 rfl (lv_at hl 1 rfl) ?_
    refine ms_get hC hK hM 2 (by decide) fl_X9_7 rfl (v := .ref (ma 2)) rfl (fun q => rfl) dX9_addStation_15 ?_
    refine lv_iload_n hx hb dX9_addStation_18 rfl (lv_at hl 2 rfl) ?_
    refine ms_zld hC hK hM 2 (i := j_x) (show j_x < 64 from by omega) (by decide) rfl rfl (v := M 2 j_x) rfl dX9_addStation_19 ?_
    refine lv_if_ne (tgt := 40) hx hb dX9_addStation_20 (by decide) (fun c_2t => ?_) (fun c_2f => ?_)
    · refine lv_iconst (v := 2) hx hb dX9_addStation_40 (by decide) ?_
      refine lv_goto (tgt := 45) hx hb dX9_addStation_41 (by decide) ?_
      refine mcl_i (run_V hC (c9_holds l G ma M D 2 hI) (As := [.int 2]) (rest := []) rfl rfl ml_X9_140 im_X9_holds se_X9_holds ini_X9 cd_X9_holds ⟨rfl, na_X9_holds⟩ mB_blind (mr_recv hK hM) (mr_B hK hM) hl.1 (Nat.le_of_ble_eq_true rfl) ⟨Nat.le_of_ble_eq_true rfl, Nat.le_of_ble_eq_true rfl⟩ ⟨Nat.le_refl _, Nat.le_refl _⟩ rfl dX9_addStation_45) hS (fun _ h => h) (fun r3 M3 H locs hp3 hM hS => ?_)
      obtain ⟨hr3, hm3⟩ := hp3
      rw [hm3] at hM
      refine top_i (y := 0) (hr3.trans (by decide)) ?_
      refine lv_if_ne (tgt := 53) hx hb dX9_addStation_48 (by decide) (fun c => absurd c (by decide)) (fun _ => ?_)
      refine lv_iconst (v := 0) hx hb dX9_addStation_51 (by decide) ?_
      subst hQ
      exact rt_mi hx hb hr hlk hM.none hS  (by simp [stnR, stnF, stnT, thr, oI_none, oI_some, c_1t, hix_x, c_2t]) dX9_addStation_52
    · refine lv_aload_n hx hb dX9_addStation_23 rfl (lv_at hl 1 rfl) ?_
      refine lv_iload_n hx hb dX9_addStation_24 rfl (lv_at hl 2 rfl) ?_
      refine cl_p (run_V hC (c9_stationAt l G ma M D (nI j_x) hcnt) (As := [.int (nI j_x)]) (rest := [.ref (ma 0)]) rfl rfl ml_X9_137 im_X9_stationAt se_X9_stationAt ini_X9 cd_X9_stationAt ⟨rfl, na_X9_stationAt⟩ mB_blind (mr_recv hK hM) (mr_B hK hM) hl.1 (Nat.le_of_ble_eq_true rfl) ⟨Nat.le_of_ble_eq_true rfl, Nat.le_of_ble_eq_true rfl⟩ ⟨Nat.le_refl _, Nat.le_refl _⟩ rfl dX9_addStation_25) ?_
      rcases ho5 : stA M (nI j_x) with _ | k5
      · refine top_i (y := -1) rfl ?_
        refine lv_iconst (v := (-1)) hx hb dX9_addStation_28 (by decide) ?_
        refine lv_icmp_ne (tgt := 40) hx hb dX9_addStation_29 (by decide) (fun c => absurd c (by decide)) (fun _ => ?_)
        refine lv_aload_n hx hb dX9_addStation_32 rfl (lv_at hl 1 rfl) ?_
        refine ms_get hC hK hM 4 (by decide) fl_X9_106 rfl (v := .int (nI (nS M))) (congrArg Value.int (show M 4 0 = (nI (nS M)) from hcnt.S)) (fun q => rfl) dX9_addStation_33 ?_
        refine lv_iconst (v := 3) hx hb dX9_addStation_36 (by decide) ?_
        refine ln_ne (tgt := 44) (a := (nS M)) (b := 3) hx hb dX9_addStation_37 (by decide) rfl rfl (by omega) (by omega) (fun c_7t => ?_) (fun c_7f => ?_)
        · refine lv_iconst (v := 0) hx hb dX9_addStation_44 (by decide) ?_
          refine mcl_i (run_V hC (c9_holds l G ma M D 0 hI) (As := [.int 0]) (rest := []) rfl rfl ml_X9_140 im_X9_holds se_X9_holds ini_X9 cd_X9_holds ⟨rfl, na_X9_holds⟩ mB_blind (mr_recv hK hM) (mr_B hK hM) hl.1 (Nat.le_of_ble_eq_true rfl) ⟨Nat.le_of_ble_eq_true rfl, Nat.le_of_ble_eq_true rfl⟩ ⟨Nat.le_refl _, Nat.le_refl _⟩ rfl dX9_addStation_45) hS (fun _ h => h) (fun r8 M8 H locs hp8 hM hS => ?_)
          obtain ⟨hr8, hm8⟩ := hp8
          rw [hm8] at hM
          refine top_i (y := 1) (hr8.trans (by decide)) ?_
          refine lv_if_ne (tgt := 53) hx hb dX9_addStation_48 (by decide) (fun _ => ?_) (fun c => absurd c (by decide))
          refine lv_aload_n hx hb dX9_addStation_53 rfl (lv_at hl 1 rfl) ?_
          refine ms_get hC hK hM 5 (by decide) fl_X9_16 rfl (v := .ref (ma 5)) rfl (fun q => rfl) dX9_addStation_54 ?_
          refine lv_aload_n hx hb dX9_addStation_57 rfl (lv_at hl 1 rfl) ?_
          refine ms_get hC hK hM 4 (by decide) fl_X9_106 rfl (v := .int (nI (nS M))) (congrArg Value.int (show (mset M 0 0 0) 4 0 = (nI (nS M)) from hcnt.S)) (fun q => rfl) dX9_addStation_58 ?_
          refine lv_iload_n hx hb dX9_addStation_61 rfl (lv_at hl 2 rfl) ?_
          refine ms_ist hC hK hI hM hS 5 (mA_k (by decide)) (i := (nS M)) (show nS M < 3 from by omega) rfl rfl dX9_addStation_62 (fun H locs hM hS => ?_)
          refine lv_aload_n hx hb dX9_addStation_63 rfl (lv_at hl 1 rfl) ?_
          refine lv_dup hx hb dX9_addStation_64 rfl ?_
          refine ms_get hC hK hM 4 (by decide) fl_X9_106 rfl (v := .int (nI (nS M))) (congrArg Value.int (show (mset (mset M 0 0 0) 5 (nS M) (nI j_x)) 4 0 = (nI (nS M)) from hcnt.S)) (fun q => rfl) dX9_addStation_65 ?_
          refine lv_iconst (v := 1) hx hb dX9_addStation_68 (by decide) ?_
          refine lv_iadd hx hb dX9_addStation_69 ?_
          refine top_i (y := nI ((nS M) + 1)) (nI_add (nS M) 1) ?_
          refine ms_put hC hK hI hM hS mA_0 4 (by decide) rfl fl_X9_106 rfl rfl rfl rfl dX9_addStation_70 (fun H locs hM hS => ?_)
          refine lv_aload_n hx hb dX9_addStation_73 rfl (lv_at hl 1 rfl) ?_
          refine ms_get hC hK hM 4 (by decide) fl_X9_106 rfl (v := .int (nI ((nS M) + 1))) (congrArg Value.int (show (mset (mset (mset M 0 0 0) 5 (nS M) (nI j_x)) 4 0 (nI ((nS M) + 1))) 4 0 = (nI ((nS M) + 1)) from (by simp [mset, upd]))) (fun q => rfl) dX9_addStation_74 ?_
          refine lv_iconst (v := 1) hx hb dX9_addStation_77 (by decide) ?_
          refine lv_isub hx hb dX9_addStation_78 ?_
          refine top_i (y := nI (((nS M) + 1) - 1)) (pk_sub (a := ((nS M) + 1)) (b := 1) (by omega)) ?_
          subst hQ
          exact rt_mi hx hb hr hlk hM.none hS  (by simp [stnR, stnF, stnT, thr, oI_none, oI_some, c_1t, hix_x, c_2f, ho5, c_7t]) dX9_addStation_79
        · refine lv_iconst (v := 2) hx hb dX9_addStation_40 (by decide) ?_
          refine lv_goto (tgt := 45) hx hb dX9_addStation_41 (by decide) ?_
          refine mcl_i (run_V hC (c9_holds l G ma M D 2 hI) (As := [.int 2]) (rest := []) rfl rfl ml_X9_140 im_X9_holds se_X9_holds ini_X9 cd_X9_holds ⟨rfl, na_X9_holds⟩ mB_blind (mr_recv hK hM) (mr_B hK hM) hl.1 (Nat.le_of_ble_eq_true rfl) ⟨Nat.le_of_ble_eq_true rfl, Nat.le_of_ble_eq_true rfl⟩ ⟨Nat.le_refl _, Nat.le_refl _⟩ rfl dX9_addStation_45) hS (fun _ h => h) (fun r10 M10 H locs hp10 hM hS => ?_)
          obtain ⟨hr10, hm10⟩ := hp10
          rw [hm10] at hM
          refine top_i (y := 0) (hr10.trans (by decide)) ?_
          refine lv_if_ne (tgt := 53) hx hb dX9_addStation_48 (by decide) (fun c => absurd c (by decide)) (fun _ => ?_)
          refine lv_iconst (v := 0) hx hb dX9_addStation_51 (by decide) ?_
          subst hQ
          exact rt_mi hx hb hr hlk hM.none hS  (by simp [stnR, stnF, stnT, thr, oI_none, oI_some, c_1t, hix_x, c_2f, ho5, c_7f]) dX9_addStation_52
      · refine top_i (y := nI k5) rfl ?_
        have hlt_k5 := (lastE_lt ho5).1
        refine lv_iconst (v := (-1)) hx hb dX9_addStation_28 (by decide) ?_
        refine lv_icmp_ne (tgt := 40) hx hb dX9_addStation_29 (by decide) (fun _ => ?_) (fun c => absurd c (nI_m1 (by omega)))
        refine lv_iconst (v := 2) hx hb dX9_addStation_40 (by decide) ?_
        refine lv_goto (tgt := 45) hx hb dX9_addStation_41 (by decide) ?_
        refine mcl_i (run_V hC (c9_holds l G ma M D 2 hI) (As := [.int 2]) (rest := []) rfl rfl ml_X9_140 im_X9_holds se_X9_holds ini_X9 cd_X9_holds ⟨rfl, na_X9_holds⟩ mB_blind (mr_recv hK hM) (mr_B hK hM) hl.1 (Nat.le_of_ble_eq_true rfl) ⟨Nat.le_of_ble_eq_true rfl, Nat.le_of_ble_eq_true rfl⟩ ⟨Nat.le_refl _, Nat.le_refl _⟩ rfl dX9_addStation_45) hS (fun _ h => h) (fun r13 M13 H locs hp13 hM hS => ?_)
        obtain ⟨hr13, hm13⟩ := hp13
        rw [hm13] at hM
        refine top_i (y := 0) (hr13.trans (by decide)) ?_
        refine lv_if_ne (tgt := 53) hx hb dX9_addStation_48 (by decide) (fun c => absurd c (by decide)) (fun _ => ?_)
        refine lv_iconst (v := 0) hx hb dX9_addStation_51 (by decide) ?_
        subst hQ
        exact rt_mi hx hb hr hlk hM.none hS  (by simp [stnR, stnF, stnT, thr, oI_none, oI_some, c_1t, hix_x, c_2f, ho5]) dX9_addStation_52
  · refine lv_iconst (v := 1) hx hb dX9_addStation_10 (by decide) ?_
    refine lv_goto (tgt := 45) hx hb dX9_addStation_11 (by decide) ?_
    refine mcl_i (run_V hC (c9_holds l G ma M D 1 hI) (As := [.int 1]) (rest := []) rfl rfl ml_X9_140 im_X9_holds se_X9_holds ini_X9 cd_X9_holds ⟨rfl, na_X9_holds⟩ mB_blind (mr_recv hK hM) (mr_B hK hM) hl.1 (Nat.le_of_ble_eq_true rfl) ⟨Nat.le_of_ble_eq_true rfl, Nat.le_of_ble_eq_true rfl⟩ ⟨Nat.le_refl _, Nat.le_refl _⟩ rfl dX9_addStation_45) hS (fun _ h => h) (fun r15 M15 H locs hp15 hM hS => ?_)
    obtain ⟨hr15, hm15⟩ := hp15
    rw [hm15] at hM
    refine top_i (y := 0) (hr15.trans (by decide)) ?_
    refine lv_if_ne (tgt := 53) hx hb dX9_addStation_48 (by decide) (fun c => absurd c (by decide)) (fun _ => ?_)
    refine lv_iconst (v := 0) hx hb dX9_addStation_51 (by decide) ?_
    subst hQ
    exact rt_mi hx hb hr hlk hM.none hS  (by simp [stnR, stnF, stnT, thr, oI_none, oI_some, c_1f]) dX9_addStation_52
set_option maxHeartbeats 4000000 in
set_option maxRecDepth 100000 in
theorem c9_addTray (l : Launch) (G : gG) (ma : Nat → Nat) (M : MS) (D : mD) (h : Int32) (g : Int32) (a : Int32) (hI : mI ma) (hcnt : CNT M) : Met l yX9_addTray (wB yX9_addTray cX9_addTray 5 (some .int)) (rmL 2 0 0) (va_Pc [.ref (ma 0), .int h, .int g, .int a] (mB G ma M D)) (mQi G ma none (fun r M' => r = trayR M h g a ∧ M' = trayF M h g a)) 0 0 (mA ma) := by
  refine st_N (own := RX9) (by decide +kernel) rfl (Nat.le_of_ble_eq_true rfl) ?_
  intro p e s m below meth c ls args Q hQ hC hr hlk hnm hl hP
  obtain ⟨hM, hK⟩ := hP
  have hx := hC.1
  have hb := hC.2.1
  have hl : lv_has ls 5 [(0, .ref (ma 0)), (1, .int h), (2, .int g), (3, .int a)] := hl
  have hS : va_S (mA ma) s.heap s.heap [] := va_S.rf
  obtain ⟨H, locs, hHe, hLe⟩ : ∃ (H : Heap) (locs : List Loc), H = s.heap ∧ locs = [] := ⟨_, _, rfl, rfl⟩
  rw [← hHe] at hM
  have hS : va_S (mA ma) s.heap H locs := by rw [hHe, hLe]; exact va_S.rf
  suffices hgo : W p l e (rmL 2 0 0) s m args below meth c H locs 0 0 Q (F0 m 0 ls []) by
    rw [hHe, hLe] at hgo
    exact hgo
  clear hHe hLe
  have h6 := hcnt.R6
  have h3 := hcnt.S3
  have h16 := hcnt.T16
  have h10 := hcnt.O10
  refine lv_iload_n hx hb dX9_addTray_0 rfl (lv_at hl 1 rfl) ?_
  refine cl_p (run_S hC (c9_isCell l h) (As := [.int h]) (rest := []) rfl rfl ml_X9_131 sm_X9_isCell ini_X9 cd_X9_isCell na_X9_isCell tB_blind (fun _ _ _ => trivial) hl.1 (Nat.le_of_ble_eq_true rfl) ⟨Nat.le_of_ble_eq_true rfl, Nat.le_of_ble_eq_true rfl⟩ ⟨Nat.le_refl _, Nat.le_refl _⟩ rfl dX9_addTray_1) ?_
  refine lb_eq (tgt := 29) (b := (inB h 64)) hx hb dX9_addTray_4 (by decide) (fun c_1t => ?_) (fun c_1f => ?_)
  · refine lv_iconst (v := 0) hx hb dX9_addTray_29 (by decide) ?_
    refine lv_istore (lv' := [(4, .int 0), (0, .ref (ma 0)), (1, .int h), (2, .int g), (3, .int a)]) hx hb dX9_addTray_30 hl (by decide) rfl (fun ls hl => ?_)
    refine lv_aload_n hx hb dX9_addTray_32 rfl (lv_at hl 1 rfl) ?_
    refine lv_iload hx hb dX9_addTray_33 (lv_at hl 0 rfl) ?_
    refine lv_if_ne (tgt := 42) hx hb dX9_addTray_35 (by decide) (fun c => absurd c (by decide)) (fun _ => ?_)
    refine lv_iconst (v := 1) hx hb dX9_addTray_38 (by decide) ?_
    refine lv_goto (tgt := 74) hx hb dX9_addTray_39 (by decide) ?_
    refine mcl_i (run_V hC (c9_holds l G ma M D 1 hI) (As := [.int 1]) (rest := []) rfl rfl ml_X9_140 im_X9_holds se_X9_holds ini_X9 cd_X9_holds ⟨rfl, na_X9_holds⟩ mB_blind (mr_recv hK hM) (mr_B hK hM) hl.1 (Nat.le_of_ble_eq_true rfl) ⟨Nat.le_of_ble_eq_true rfl, Nat.le_of_ble_eq_true rfl⟩ ⟨Nat.le_refl _, Nat.le_refl _⟩ rfl dX9_addTray_74) hS (fun _ h => h) (fun r3 M3 H locs hp3 hM hS => ?_)
    obtain ⟨hr3, hm3⟩ := hp3
    rw [hm3] at hM
    refine top_i (y := 0) (hr3.trans (by decide)) ?_
    refine lv_if_ne (tgt := 82) hx hb dX9_addTray_77 (by decide) (fun c => absurd c (by decide)) (fun _ => ?_)
    refine lv_iconst (v := 0) hx hb dX9_addTray_80 (by decide) ?_
    subst hQ
    exact rt_mi hx hb hr hlk hM.none hS  (by simp [trayR, trayF, trayT, thr, oI_none, oI_some, c_1t]) dX9_addTray_81
  · obtain ⟨j_h, hlt_h, rfl⟩ := inB_of (n := 64) (by decide) c_1f
    have hix_h := ix_nI (n := j_h) (by omega)
    refine lv_iload_n hx hb dX9_addTray_7 rfl (lv_at hl 2 rfl) ?_
    refine lv_bipush (v := 6) hx hb dX9_addTray_8 (by decide) ?_
    refine cl_p (run_S hC (c9_isIn l g 6) (As := [.int g, .int 6]) (rest := []) rfl rfl ml_X9_99 sm_X9_isIn ini_X9 cd_X9_isIn na_X9_isIn tB_blind (fun _ _ _ => trivial) hl.1 (Nat.le_of_ble_eq_true rfl) ⟨Nat.le_of_ble_eq_true rfl, Nat.le_of_ble_eq_true rfl⟩ ⟨Nat.le_refl _, Nat.le_refl _⟩ rfl dX9_addTray_10) ?_
    refine lb_eq (tgt := 29) (b := (inB g 6)) hx hb dX9_addTray_13 (by decide) (fun c_5t => ?_) (fun c_5f => ?_)
    · refine lv_iconst (v := 0) hx hb dX9_addTray_29 (by decide) ?_
      refine lv_istore (lv' := [(4, .int 0), (0, .ref (ma 0)), (1, .int (nI j_h)), (2, .int g), (3, .int a)]) hx hb dX9_addTray_30 hl (by decide) rfl (fun ls hl => ?_)
      refine lv_aload_n hx hb dX9_addTray_32 rfl (lv_at hl 1 rfl) ?_
      refine lv_iload hx hb dX9_addTray_33 (lv_at hl 0 rfl) ?_
      refine lv_if_ne (tgt := 42) hx hb dX9_addTray_35 (by decide) (fun c => absurd c (by decide)) (fun _ => ?_)
      refine lv_iconst (v := 1) hx hb dX9_addTray_38 (by decide) ?_
      refine lv_goto (tgt := 74) hx hb dX9_addTray_39 (by decide) ?_
      refine mcl_i (run_V hC (c9_holds l G ma M D 1 hI) (As := [.int 1]) (rest := []) rfl rfl ml_X9_140 im_X9_holds se_X9_holds ini_X9 cd_X9_holds ⟨rfl, na_X9_holds⟩ mB_blind (mr_recv hK hM) (mr_B hK hM) hl.1 (Nat.le_of_ble_eq_true rfl) ⟨Nat.le_of_ble_eq_true rfl, Nat.le_of_ble_eq_true rfl⟩ ⟨Nat.le_refl _, Nat.le_refl _⟩ rfl dX9_addTray_74) hS (fun _ h => h) (fun r7 M7 H locs hp7 hM hS => ?_)
      obtain ⟨hr7, hm7⟩ := hp7
      rw [hm7] at hM
      refine top_i (y := 0) (hr7.trans (by decide)) ?_
      refine lv_if_ne (tgt := 82) hx hb dX9_addTray_77 (by decide) (fun c => absurd c (by decide)) (fun _ => ?_)
      refine lv_iconst (v := 0) hx hb dX9_addTray_80 (by decide) ?_
      subst hQ
      exact rt_mi hx hb hr hlk hM.none hS  (by simp [trayR, trayF, trayT, thr, oI_none, oI_some, c_1f, hix_h, c_5t]) dX9_addTray_81
    · obtain ⟨j_g, hlt_g, rfl⟩ := inB_of (n := 6) (by decide) c_5f
      have hix_g := ix_nI (n := j_g) (by omega)
      refine lv_iload_n hx hb dX9_addTray_16 rfl (lv_at hl 3 rfl) ?_
      refine lv_bipush (v := 101) hx hb dX9_addTray_17 (by decide) ?_
      refine cl_p (run_S hC (c9_isIn l a 101) (As := [.int a, .int 101]) (rest := []) rfl rfl ml_X9_99 sm_X9_isIn ini_X9 cd_X9_isIn na_X9_isIn tB_blind (fun _ _ _ => trivial) hl.1 (Nat.le_of_ble_eq_true rfl) ⟨Nat.le_of_ble_eq_true rfl, Nat.le_of_ble_eq_true rfl⟩ ⟨Nat.le_refl _, Nat.le_refl _⟩ rfl dX9_addTray_19) ?_
      refine lb_eq (tgt := 29) (b := (inB a 101)) hx hb dX9_addTray_22 (by decide) (fun c_9t => ?_) (fun c_9f => ?_)
      · refine lv_iconst (v := 0) hx hb dX9_addTray_29 (by decide) ?_
        refine lv_istore (lv' := [(4, .int 0), (0, .ref (ma 0)), (1, .int (nI j_h)), (2, .int (nI j_g)), (3, .int a)]) hx hb dX9_addTray_30 hl (by decide) rfl (fun ls hl => ?_)
        refine lv_aload_n hx hb dX9_addTray_32 rfl (lv_at hl 1 rfl) ?_
        refine lv_iload hx hb dX9_addTray_33 (lv_at hl 0 rfl) ?_
        refine lv_if_ne (tgt := 42) hx hb dX9_addTray_35 (by decide) (fun c => absurd c (by decide)) (fun _ => ?_)
        refine lv_iconst (v := 1) hx hb dX9_addTray_38 (by decide) ?_
        refine lv_goto (tgt := 74) hx hb dX9_addTray_39 (by decide) ?_
        refine mcl_i (run_V hC (c9_holds l G ma M D 1 hI) (As := [.int 1]) (rest := []) rfl rfl ml_X9_140 im_X9_holds se_X9_holds ini_X9 cd_X9_holds ⟨rfl, na_X9_holds⟩ mB_blind (mr_recv hK hM) (mr_B hK hM) hl.1 (Nat.le_of_ble_eq_true rfl) ⟨Nat.le_of_ble_eq_true rfl, Nat.le_of_ble_eq_true rfl⟩ ⟨Nat.le_refl _, Nat.le_refl _⟩ rfl dX9_addTray_74) hS (fun _ h => h) (fun r11 M11 H locs hp11 hM hS => ?_)
        obtain ⟨hr11, hm11⟩ := hp11
        rw [hm11] at hM
        refine top_i (y := 0) (hr11.trans (by decide)) ?_
        refine lv_if_ne (tgt := 82) hx hb dX9_addTray_77 (by decide) (fun c => absurd c (by decide)) (fun _ => ?_)
        refine lv_iconst (v := 0) hx hb dX9_addTray_80 (by decide) ?_
        subst hQ
        exact rt_mi hx hb hr hlk hM.none hS  (by simp [trayR, trayF, trayT, thr, oI_none, oI_some, c_1f, hix_h, c_5f, hix_g, c_9t]) dX9_addTray_81
      · obtain ⟨j_a, hlt_a, rfl⟩ := inB_of (n := 101) (by decide) c_9f
        have hix_a := ix_nI (n := j_a) (by omega)
        refine lv_iconst (v := 1) hx hb dX9_addTray_25 (by decide) ?_
        refine lv_goto (tgt := 30) hx hb dX9_addTray_26 (by decide) ?_
        refine lv_istore (lv' := [(4, .int 1), (0, .ref (ma 0)), (1, .int (nI j_h)), (2, .int (nI j_g)), (3, .int (nI j_a))]) hx hb dX9_addTray_30 hl (by decide) rfl (fun ls hl => ?_)
        refine lv_aload_n hx hb dX9_addTray_32 rfl (lv_at hl 1 rfl) ?_
        refine lv_iload hx hb dX9_addTray_33 (lv_at hl 0 rfl) ?_
        refine lv_if_ne (tgt := 42) hx hb dX9_addTray_35 (by decide) (fun _ => ?_) (fun c => absurd c (by decide))
        refine lv_aload_n hx hb dX9_addTray_42 rfl (lv_at hl 1 rfl) ?_
        refine ms_get hC hK hM 2 (by decide) fl_X9_7 rfl (v := .ref (ma 2)) rfl (fun q => rfl) dX9_addTray_43 ?_
        refine lv_iload_n hx hb dX9_addTray_46 rfl (lv_at hl 2 rfl) ?_
        refine ms_zld hC hK hM 2 (i := j_h) (show j_h < 64 from by omega) (by decide) rfl rfl (v := M 2 j_h) rfl dX9_addTray_47 ?_
        refine lv_if_ne (tgt := 69) hx hb dX9_addTray_48 (by decide) (fun c_14t => ?_) (fun c_14f => ?_)
        · refine lv_iconst (v := 2) hx hb dX9_addTray_69 (by decide) ?_
          refine lv_goto (tgt := 74) hx hb dX9_addTray_70 (by decide) ?_
          refine mcl_i (run_V hC (c9_holds l G ma M D 2 hI) (As := [.int 2]) (rest := []) rfl rfl ml_X9_140 im_X9_holds se_X9_holds ini_X9 cd_X9_holds ⟨rfl, na_X9_holds⟩ mB_blind (mr_recv hK hM) (mr_B hK hM) hl.1 (Nat.le_of_ble_eq_true rfl) ⟨Nat.le_of_ble_eq_true rfl, Nat.le_of_ble_eq_true rfl⟩ ⟨Nat.le_refl _, Nat.le_refl _⟩ rfl dX9_addTray_74) hS (fun _ h => h) (fun r15 M15 H locs hp15 hM hS => ?_)
          obtain ⟨hr15, hm15⟩ := hp15
          rw [hm15] at hM
          refine top_i (y := 0) (hr15.trans (by decide)) ?_
          refine lv_if_ne (tgt := 82) hx hb dX9_addTray_77 (by decide) (fun c => absurd c (by decide)) (fun _ => ?_)
          refine lv_iconst (v := 0) hx hb dX9_addTray_80 (by decide) ?_
          subst hQ
          exact rt_mi hx hb hr hlk hM.none hS  (by simp [trayR, trayF, trayT, thr, oI_none, oI_some, c_1f, hix_h, c_5f, hix_g, c_9f, hix_a, c_14t]) dX9_addTray_81
        · refine lv_aload_n hx hb dX9_addTray_51 rfl (lv_at hl 1 rfl) ?_
          refine lv_iload_n hx hb dX9_addTray_52 rfl (lv_at hl 2 rfl) ?_
          refine cl_p (run_V hC (c9_homeOf l G ma M D (nI j_h) hcnt) (As := [.int (nI j_h)]) (rest := [.ref (ma 0)]) rfl rfl ml_X9_134 im_X9_homeOf se_X9_homeOf ini_X9 cd_X9_homeOf ⟨rfl, na_X9_homeOf⟩ mB_blind (mr_recv hK hM) (mr_B hK hM) hl.1 (Nat.le_of_ble_eq_true rfl) ⟨Nat.le_of_ble_eq_true rfl, Nat.le_of_ble_eq_true rfl⟩ ⟨Nat.le_refl _, Nat.le_refl _⟩ rfl dX9_addTray_53) ?_
          rcases ho17 : hmA M (nI j_h) with _ | k17
          · refine top_i (y := -1) rfl ?_
            refine lv_iconst (v := (-1)) hx hb dX9_addTray_56 (by decide) ?_
            refine lv_icmp_ne (tgt := 69) hx hb dX9_addTray_57 (by decide) (fun c => absurd c (by decide)) (fun _ => ?_)
            refine lv_aload_n hx hb dX9_addTray_60 rfl (lv_at hl 1 rfl) ?_
            refine ms_get hC hK hM 6 (by decide) fl_X9_109 rfl (v := .int (nI (nT M))) (congrArg Value.int (show M 6 0 = (nI (nT M)) from hcnt.T)) (fun q => rfl) dX9_addTray_61 ?_
            refine lv_bipush (v := 16) hx hb dX9_addTray_64 (by decide) ?_
            refine ln_ne (tgt := 73) (a := (nT M)) (b := 16) hx hb dX9_addTray_66 (by decide) rfl rfl (by omega) (by omega) (fun c_19t => ?_) (fun c_19f => ?_)
            · refine lv_iconst (v := 0) hx hb dX9_addTray_73 (by decide) ?_
              refine mcl_i (run_V hC (c9_holds l G ma M D 0 hI) (As := [.int 0]) (rest := []) rfl rfl ml_X9_140 im_X9_holds se_X9_holds ini_X9 cd_X9_holds ⟨rfl, na_X9_holds⟩ mB_blind (mr_recv hK hM) (mr_B hK hM) hl.1 (Nat.le_of_ble_eq_true rfl) ⟨Nat.le_of_ble_eq_true rfl, Nat.le_of_ble_eq_true rfl⟩ ⟨Nat.le_refl _, Nat.le_refl _⟩ rfl dX9_addTray_74) hS (fun _ h => h) (fun r20 M20 H locs hp20 hM hS => ?_)
              obtain ⟨hr20, hm20⟩ := hp20
              rw [hm20] at hM
              refine top_i (y := 1) (hr20.trans (by decide)) ?_
              refine lv_if_ne (tgt := 82) hx hb dX9_addTray_77 (by decide) (fun _ => ?_) (fun c => absurd c (by decide))
              refine lv_aload_n hx hb dX9_addTray_82 rfl (lv_at hl 1 rfl) ?_
              refine ms_get hC hK hM 7 (by decide) fl_X9_20 rfl (v := .ref (ma 7)) rfl (fun q => rfl) dX9_addTray_83 ?_
              refine lv_aload_n hx hb dX9_addTray_86 rfl (lv_at hl 1 rfl) ?_
              refine ms_get hC hK hM 6 (by decide) fl_X9_109 rfl (v := .int (nI (nT M))) (congrArg Value.int (show (mset M 0 0 0) 6 0 = (nI (nT M)) from hcnt.T)) (fun q => rfl) dX9_addTray_87 ?_
              refine lv_iload_n hx hb dX9_addTray_90 rfl (lv_at hl 2 rfl) ?_
              refine ms_ist hC hK hI hM hS 7 (mA_k (by decide)) (i := (nT M)) (show nT M < 16 from by omega) rfl rfl dX9_addTray_91 (fun H locs hM hS => ?_)
              refine lv_aload_n hx hb dX9_addTray_92 rfl (lv_at hl 1 rfl) ?_
              refine ms_get hC hK hM 8 (by decide) fl_X9_23 rfl (v := .ref (ma 8)) rfl (fun q => rfl) dX9_addTray_93 ?_
              refine lv_aload_n hx hb dX9_addTray_96 rfl (lv_at hl 1 rfl) ?_
              refine ms_get hC hK hM 6 (by decide) fl_X9_109 rfl (v := .int (nI (nT M))) (congrArg Value.int (show (mset (mset M 0 0 0) 7 (nT M) (nI j_h)) 6 0 = (nI (nT M)) from hcnt.T)) (fun q => rfl) dX9_addTray_97 ?_
              refine lv_iload_n hx hb dX9_addTray_100 rfl (lv_at hl 3 rfl) ?_
              refine ms_ist hC hK hI hM hS 8 (mA_k (by decide)) (i := (nT M)) (show nT M < 16 from by omega) rfl rfl dX9_addTray_101 (fun H locs hM hS => ?_)
              refine lv_aload_n hx hb dX9_addTray_102 rfl (lv_at hl 1 rfl) ?_
              refine ms_get hC hK hM 9 (by decide) fl_X9_26 rfl (v := .ref (ma 9)) rfl (fun q => rfl) dX9_addTray_103 ?_
              refine lv_aload_n hx hb dX9_addTray_106 rfl (lv_at hl 1 rfl) ?_
              refine ms_get hC hK hM 6 (by decide) fl_X9_109 rfl (v := .int (nI (nT M))) (congrArg Value.int (show (mset (mset (mset M 0 0 0) 7 (nT M) (nI j_h)) 8 (nT M) (nI j_g)) 6 0 = (nI (nT M)) from hcnt.T)) (fun q => rfl) dX9_addTray_107 ?_
              refine lv_iload_n hx hb dX9_addTray_110 rfl (lv_at hl 4 rfl) ?_
              refine ms_ist hC hK hI hM hS 9 (mA_k (by decide)) (i := (nT M)) (show nT M < 16 from by omega) rfl rfl dX9_addTray_111 (fun H locs hM hS => ?_)
              refine lv_aload_n hx hb dX9_addTray_112 rfl (lv_at hl 1 rfl) ?_
              refine ms_get hC hK hM 32 (by decide) fl_X9_74 rfl (v := .ref (ma 32)) rfl (fun q => rfl) dX9_addTray_113 ?_
              refine lv_iload_n hx hb dX9_addTray_116 rfl (lv_at hl 3 rfl) ?_
              refine lv_dup2_11 hx hb dX9_addTray_117 rfl rfl ?_
              refine ms_ild hC hK hM 32 (i := j_g) (show j_g < 6 from by omega) (by decide) rfl rfl (v := M 32 j_g) rfl dX9_addTray_118 ?_
              refine lv_iload_n hx hb dX9_addTray_119 rfl (lv_at hl 4 rfl) ?_
              refine lv_iadd hx hb dX9_addTray_120 ?_
              refine ms_ist hC hK hI hM hS 32 (mA_k (by decide)) (i := j_g) (show j_g < 6 from by omega) rfl rfl dX9_addTray_121 (fun H locs hM hS => ?_)
              refine lv_aload_n hx hb dX9_addTray_122 rfl (lv_at hl 1 rfl) ?_
              refine lv_dup hx hb dX9_addTray_123 rfl ?_
              refine ms_get hC hK hM 6 (by decide) fl_X9_109 rfl (v := .int (nI (nT M))) (congrArg Value.int (show (mset (mset (mset (mset (mset M 0 0 0) 7 (nT M) (nI j_h)) 8 (nT M) (nI j_g)) 9 (nT M) (nI j_a)) 32 j_g ((M 32 j_g) + (nI j_a))) 6 0 = (nI (nT M)) from hcnt.T)) (fun q => rfl) dX9_addTray_124 ?_
              refine lv_iconst (v := 1) hx hb dX9_addTray_127 (by decide) ?_
              refine lv_iadd hx hb dX9_addTray_128 ?_
              refine top_i (y := nI ((nT M) + 1)) (nI_add (nT M) 1) ?_
              refine ms_put hC hK hI hM hS mA_0 6 (by decide) rfl fl_X9_109 rfl rfl rfl rfl dX9_addTray_129 (fun H locs hM hS => ?_)
              refine lv_aload_n hx hb dX9_addTray_132 rfl (lv_at hl 1 rfl) ?_
              refine ms_get hC hK hM 6 (by decide) fl_X9_109 rfl (v := .int (nI ((nT M) + 1))) (congrArg Value.int (show (mset (mset (mset (mset (mset (mset M 0 0 0) 7 (nT M) (nI j_h)) 8 (nT M) (nI j_g)) 9 (nT M) (nI j_a)) 32 j_g ((M 32 j_g) + (nI j_a))) 6 0 (nI ((nT M) + 1))) 6 0 = (nI ((nT M) + 1)) from (by simp [mset, upd]))) (fun q => rfl) dX9_addTray_133 ?_
              refine lv_iconst (v := 1) hx hb dX9_addTray_136 (by decide) ?_
              refine lv_isub hx hb dX9_addTray_137 ?_
              refine top_i (y := nI (((nT M) + 1) - 1)) (pk_sub (a := ((nT M) + 1)) (b := 1) (by omega)) ?_
              subst hQ
              exact rt_mi hx hb hr hlk hM.none hS  (by simp [trayR, trayF, trayT, thr, oI_none, oI_some, c_1f, hix_h, c_5f, hix_g, c_9f, hix_a, c_14f, ho17, c_19t]) dX9_addTray_138
            · refine lv_iconst (v := 2) hx hb dX9_addTray_69 (by decide) ?_
              refine lv_goto (tgt := 74) hx hb dX9_addTray_70 (by decide) ?_
              refine mcl_i (run_V hC (c9_holds l G ma M D 2 hI) (As := [.int 2]) (rest := []) rfl rfl ml_X9_140 im_X9_holds se_X9_holds ini_X9 cd_X9_holds ⟨rfl, na_X9_holds⟩ mB_blind (mr_recv hK hM) (mr_B hK hM) hl.1 (Nat.le_of_ble_eq_true rfl) ⟨Nat.le_of_ble_eq_true rfl, Nat.le_of_ble_eq_true rfl⟩ ⟨Nat.le_refl _, Nat.le_refl _⟩ rfl dX9_addTray_74) hS (fun _ h => h) (fun r22 M22 H locs hp22 hM hS => ?_)
              obtain ⟨hr22, hm22⟩ := hp22
              rw [hm22] at hM
              refine top_i (y := 0) (hr22.trans (by decide)) ?_
              refine lv_if_ne (tgt := 82) hx hb dX9_addTray_77 (by decide) (fun c => absurd c (by decide)) (fun _ => ?_)
              refine lv_iconst (v := 0) hx hb dX9_addTray_80 (by decide) ?_
              subst hQ
              exact rt_mi hx hb hr hlk hM.none hS  (by simp [trayR, trayF, trayT, thr, oI_none, oI_some, c_1f, hix_h, c_5f, hix_g, c_9f, hix_a, c_14f, ho17, c_19f]) dX9_addTray_81
          · refine top_i (y := nI k17) rfl ?_
            have hlt_k17 := (lastE_lt ho17).1
            refine lv_iconst (v := (-1)) hx hb dX9_addTray_56 (by decide) ?_
            refine lv_icmp_ne (tgt := 69) hx hb dX9_addTray_57 (by decide) (fun _ => ?_) (fun c => absurd c (nI_m1 (by omega)))
            refine lv_iconst (v := 2) hx hb dX9_addTray_69 (by decide) ?_
            refine lv_goto (tgt := 74) hx hb dX9_addTray_70 (by decide) ?_
            refine mcl_i (run_V hC (c9_holds l G ma M D 2 hI) (As := [.int 2]) (rest := []) rfl rfl ml_X9_140 im_X9_holds se_X9_holds ini_X9 cd_X9_holds ⟨rfl, na_X9_holds⟩ mB_blind (mr_recv hK hM) (mr_B hK hM) hl.1 (Nat.le_of_ble_eq_true rfl) ⟨Nat.le_of_ble_eq_true rfl, Nat.le_of_ble_eq_true rfl⟩ ⟨Nat.le_refl _, Nat.le_refl _⟩ rfl dX9_addTray_74) hS (fun _ h => h) (fun r25 M25 H locs hp25 hM hS => ?_)
            obtain ⟨hr25, hm25⟩ := hp25
            rw [hm25] at hM
            refine top_i (y := 0) (hr25.trans (by decide)) ?_
            refine lv_if_ne (tgt := 82) hx hb dX9_addTray_77 (by decide) (fun c => absurd c (by decide)) (fun _ => ?_)
            refine lv_iconst (v := 0) hx hb dX9_addTray_80 (by decide) ?_
            subst hQ
            exact rt_mi hx hb hr hlk hM.none hS  (by simp [trayR, trayF, trayT, thr, oI_none, oI_some, c_1f, hix_h, c_5f, hix_g, c_9f, hix_a, c_14f, ho17]) dX9_addTray_81
set_option maxHeartbeats 4000000 in
set_option maxRecDepth 100000 in
theorem c9_fill (l : Launch) (G : gG) (ma : Nat → Nat) (M : MS) (D : mD) (t : Int32) (a : Int32) (hI : mI ma) (hcnt : CNT M) (hg6 : ∀ t, t < nT M → ∃ g, g < 6 ∧ M 8 t = nI g) : Met l yX9_fill (wB yX9_fill cX9_fill 4 (some .int)) (rmL 2 0 0) (va_Pc [.ref (ma 0), .int t, .int a] (mB G ma M D)) (mQi G ma none (fun r M' => r = fillR M t a ∧ M' = fillF M t a)) 0 0 (mA ma) := by
  refine st_N (own := RX9) (by decide +kernel) rfl (Nat.le_of_ble_eq_true rfl) ?_
  intro p e s m below meth c ls args Q hQ hC hr hlk hnm hl hP
  obtain ⟨hM, hK⟩ := hP
  have hx := hC.1
  have hb := hC.2.1
  have hl : lv_has ls 4 [(0, .ref (ma 0)), (1, .int t), (2, .int a)] := hl
  have hS : va_S (mA ma) s.heap s.heap [] := va_S.rf
  obtain ⟨H, locs, hHe, hLe⟩ : ∃ (H : Heap) (locs : List Loc), H = s.heap ∧ locs = [] := ⟨_, _, rfl, rfl⟩
  rw [← hHe] at hM
  have hS : va_S (mA ma) s.heap H locs := by rw [hHe, hLe]; exact va_S.rf
  suffices hgo : W p l e (rmL 2 0 0) s m args below meth c H locs 0 0 Q (F0 m 0 ls []) by
    rw [hHe, hLe] at hgo
    exact hgo
  clear hHe hLe
  have h6 := hcnt.R6
  have h3 := hcnt.S3
  have h16 := hcnt.T16
  have h10 := hcnt.O10
  refine lv_aload_n hx hb dX9_fill_0 rfl (lv_at hl 0 rfl) ?_
  refine lv_iload_n hx hb dX9_fill_1 rfl (lv_at hl 1 rfl) ?_
  refine cl_p (run_V hC (c9_isTray l G ma M D t hcnt) (As := [.int t]) (rest := []) rfl rfl ml_X9_146 im_X9_isTray se_X9_isTray ini_X9 cd_X9_isTray ⟨rfl, na_X9_isTray⟩ mB_blind (mr_recv hK hM) (mr_B hK hM) hl.1 (Nat.le_of_ble_eq_true rfl) ⟨Nat.le_of_ble_eq_true rfl, Nat.le_of_ble_eq_true rfl⟩ ⟨Nat.le_refl _, Nat.le_refl _⟩ rfl dX9_fill_2) ?_
  refine lv_istore_n (lv' := [(3, .int (bI (inB t (nI (nT M))))), (0, .ref (ma 0)), (1, .int t), (2, .int a)]) hx hb dX9_fill_5 rfl hl (by decide) rfl (fun ls hl => ?_)
  refine lv_aload_n hx hb dX9_fill_6 rfl (lv_at hl 1 rfl) ?_
  refine lv_iload_n hx hb dX9_fill_7 rfl (lv_at hl 0 rfl) ?_
  refine lb_ne (tgt := 15) (b := (inB t (nI (nT M)))) hx hb dX9_fill_8 (by decide) (fun c_1t => ?_) (fun c_1f => ?_)
  · obtain ⟨j_t, hlt_t, rfl⟩ := inB_of (n := nT M) (by omega) c_1t
    have hix_t := ix_nI (n := j_t) (by omega)
    refine lv_iload_n hx hb dX9_fill_15 rfl (lv_at hl 3 rfl) ?_
    refine lv_iconst (v := 1) hx hb dX9_fill_16 (by decide) ?_
    refine lv_icmp_lt (tgt := 26) hx hb dX9_fill_17 (by decide) (fun c_2t => ?_) (fun c_2f => ?_)
    · refine lv_iconst (v := 2) hx hb dX9_fill_26 (by decide) ?_
      refine lv_goto (tgt := 45) hx hb dX9_fill_27 (by decide) ?_
      refine mcl_i (run_V hC (c9_holds l G ma M D 2 hI) (As := [.int 2]) (rest := []) rfl rfl ml_X9_140 im_X9_holds se_X9_holds ini_X9 cd_X9_holds ⟨rfl, na_X9_holds⟩ mB_blind (mr_recv hK hM) (mr_B hK hM) hl.1 (Nat.le_of_ble_eq_true rfl) ⟨Nat.le_of_ble_eq_true rfl, Nat.le_of_ble_eq_true rfl⟩ ⟨Nat.le_refl _, Nat.le_refl _⟩ rfl dX9_fill_45) hS (fun _ h => h) (fun r3 M3 H locs hp3 hM hS => ?_)
      obtain ⟨hr3, hm3⟩ := hp3
      rw [hm3] at hM
      refine top_i (y := 0) (hr3.trans (by decide)) ?_
      refine lv_if_ne (tgt := 53) hx hb dX9_fill_48 (by decide) (fun c => absurd c (by decide)) (fun _ => ?_)
      refine lv_iconst (v := 0) hx hb dX9_fill_51 (by decide) ?_
      subst hQ
      exact rt_mi hx hb hr hlk hM.none hS  (by simp [fillR, fillF, fillT, upd, thr, oI_none, oI_some, c_1t, hix_t, c_2t]) dX9_fill_52
    · refine lv_iload_n hx hb dX9_fill_20 rfl (lv_at hl 3 rfl) ?_
      refine lv_bipush (v := 100) hx hb dX9_fill_21 (by decide) ?_
      refine lv_icmp_le (tgt := 30) hx hb dX9_fill_23 (by decide) (fun c_5t => ?_) (fun c_5f => ?_)
      · refine lv_aload_n hx hb dX9_fill_30 rfl (lv_at hl 1 rfl) ?_
        refine lv_iload_n hx hb dX9_fill_31 rfl (lv_at hl 2 rfl) ?_
        refine lv_iconst (v := 0) hx hb dX9_fill_32 (by decide) ?_
        refine cl_p (run_V hC (c9_robotWith l G ma M D (nI j_t) false hcnt) (As := [.int (nI j_t), .int 0]) (rest := [.ref (ma 0)]) rfl rfl ml_X9_149 im_X9_robotWith se_X9_robotWith ini_X9 cd_X9_robotWith ⟨rfl, na_X9_robotWith⟩ mB_blind (mr_recv hK hM) (mr_B hK hM) hl.1 (Nat.le_of_ble_eq_true rfl) ⟨Nat.le_of_ble_eq_true rfl, Nat.le_of_ble_eq_true rfl⟩ ⟨Nat.le_refl _, Nat.le_refl _⟩ rfl dX9_fill_33) ?_
        rcases ho6 : rwA M (nI j_t) false with _ | k6
        · refine top_i (y := -1) rfl ?_
          refine lv_iconst (v := (-1)) hx hb dX9_fill_36 (by decide) ?_
          refine lv_icmp_eq (tgt := 44) hx hb dX9_fill_37 (by decide) (fun _ => ?_) (fun c => absurd c (by decide))
          refine lv_iconst (v := 0) hx hb dX9_fill_44 (by decide) ?_
          refine mcl_i (run_V hC (c9_holds l G ma M D 0 hI) (As := [.int 0]) (rest := []) rfl rfl ml_X9_140 im_X9_holds se_X9_holds ini_X9 cd_X9_holds ⟨rfl, na_X9_holds⟩ mB_blind (mr_recv hK hM) (mr_B hK hM) hl.1 (Nat.le_of_ble_eq_true rfl) ⟨Nat.le_of_ble_eq_true rfl, Nat.le_of_ble_eq_true rfl⟩ ⟨Nat.le_refl _, Nat.le_refl _⟩ rfl dX9_fill_45) hS (fun _ h => h) (fun r8 M8 H locs hp8 hM hS => ?_)
          obtain ⟨hr8, hm8⟩ := hp8
          rw [hm8] at hM
          refine top_i (y := 1) (hr8.trans (by decide)) ?_
          refine lv_if_ne (tgt := 53) hx hb dX9_fill_48 (by decide) (fun _ => ?_) (fun c => absurd c (by decide))
          obtain ⟨g8, hg86, hg8⟩ := hg6 j_t (by omega)
          have hix8 := ix_nI (n := g8) (by omega)
          refine lv_aload_n hx hb dX9_fill_53 rfl (lv_at hl 1 rfl) ?_
          refine ms_get hC hK hM 9 (by decide) fl_X9_26 rfl (v := .ref (ma 9)) rfl (fun q => rfl) dX9_fill_54 ?_
          refine lv_iload_n hx hb dX9_fill_57 rfl (lv_at hl 2 rfl) ?_
          refine lv_dup2_11 hx hb dX9_fill_58 rfl rfl ?_
          refine ms_ild hC hK hM 9 (i := j_t) (show j_t < 16 from by omega) (by decide) rfl rfl (v := M 9 j_t) rfl dX9_fill_59 ?_
          refine lv_iload_n hx hb dX9_fill_60 rfl (lv_at hl 3 rfl) ?_
          refine lv_iadd hx hb dX9_fill_61 ?_
          refine ms_ist hC hK hI hM hS 9 (mA_k (by decide)) (i := j_t) (show j_t < 16 from by omega) rfl rfl dX9_fill_62 (fun H locs hM hS => ?_)
          refine lv_aload_n hx hb dX9_fill_63 rfl (lv_at hl 1 rfl) ?_
          refine ms_get hC hK hM 32 (by decide) fl_X9_74 rfl (v := .ref (ma 32)) rfl (fun q => rfl) dX9_fill_64 ?_
          refine lv_aload_n hx hb dX9_fill_67 rfl (lv_at hl 1 rfl) ?_
          refine ms_get hC hK hM 8 (by decide) fl_X9_23 rfl (v := .ref (ma 8)) rfl (fun q => rfl) dX9_fill_68 ?_
          refine lv_iload_n hx hb dX9_fill_71 rfl (lv_at hl 2 rfl) ?_
          refine ms_ild hC hK hM 8 (i := j_t) (show j_t < 16 from by omega) (by decide) rfl rfl (v := nI g8) hg8 dX9_fill_72 ?_
          refine lv_dup2_11 hx hb dX9_fill_73 rfl rfl ?_
          refine ms_ild hC hK hM 32 (i := g8) (show g8 < 6 from by omega) (by decide) rfl rfl (v := M 32 g8) rfl dX9_fill_74 ?_
          refine lv_iload_n hx hb dX9_fill_75 rfl (lv_at hl 3 rfl) ?_
          refine lv_iadd hx hb dX9_fill_76 ?_
          refine ms_ist hC hK hI hM hS 32 (mA_k (by decide)) (i := g8) (show g8 < 6 from by omega) rfl rfl dX9_fill_77 (fun H locs hM hS => ?_)
          refine lv_aload_n hx hb dX9_fill_78 rfl (lv_at hl 1 rfl) ?_
          refine ms_get hC hK hM 9 (by decide) fl_X9_26 rfl (v := .ref (ma 9)) rfl (fun q => rfl) dX9_fill_79 ?_
          refine lv_iload_n hx hb dX9_fill_82 rfl (lv_at hl 2 rfl) ?_
          refine ms_ild hC hK hM 9 (i := j_t) (show j_t < 16 from by omega) (by decide) rfl rfl (v := (M 9 j_t) + a) (by simp [mset, upd]) dX9_fill_83 ?_
          subst hQ
          exact rt_mi hx hb hr hlk hM.none hS  (by simp [fillR, fillF, fillT, upd, thr, oI_none, oI_some, c_1t, hix_t, c_2f, c_5t, ho6, hg8, hix8]) dX9_fill_84
        · refine top_i (y := nI k6) rfl ?_
          have hlt_k6 := (lastP_lt ho6).1
          refine lv_iconst (v := (-1)) hx hb dX9_fill_36 (by decide) ?_
          refine lv_icmp_eq (tgt := 44) hx hb dX9_fill_37 (by decide) (fun c => absurd c (nI_m1 (by omega))) (fun _ => ?_)
          refine lv_iconst (v := 3) hx hb dX9_fill_40 (by decide) ?_
          refine lv_goto (tgt := 45) hx hb dX9_fill_41 (by decide) ?_
          refine mcl_i (run_V hC (c9_holds l G ma M D 3 hI) (As := [.int 3]) (rest := []) rfl rfl ml_X9_140 im_X9_holds se_X9_holds ini_X9 cd_X9_holds ⟨rfl, na_X9_holds⟩ mB_blind (mr_recv hK hM) (mr_B hK hM) hl.1 (Nat.le_of_ble_eq_true rfl) ⟨Nat.le_of_ble_eq_true rfl, Nat.le_of_ble_eq_true rfl⟩ ⟨Nat.le_refl _, Nat.le_refl _⟩ rfl dX9_fill_45) hS (fun _ h => h) (fun r11 M11 H locs hp11 hM hS => ?_)
          obtain ⟨hr11, hm11⟩ := hp11
          rw [hm11] at hM
          refine top_i (y := 0) (hr11.trans (by decide)) ?_
          refine lv_if_ne (tgt := 53) hx hb dX9_fill_48 (by decide) (fun c => absurd c (by decide)) (fun _ => ?_)
          refine lv_iconst (v := 0) hx hb dX9_fill_51 (by decide) ?_
          subst hQ
          exact rt_mi hx hb hr hlk hM.none hS  (by simp [fillR, fillF, fillT, upd, thr, oI_none, oI_some, c_1t, hix_t, c_2f, c_5t, ho6]) dX9_fill_52
      · refine lv_iconst (v := 2) hx hb dX9_fill_26 (by decide) ?_
        refine lv_goto (tgt := 45) hx hb dX9_fill_27 (by decide) ?_
        refine mcl_i (run_V hC (c9_holds l G ma M D 2 hI) (As := [.int 2]) (rest := []) rfl rfl ml_X9_140 im_X9_holds se_X9_holds ini_X9 cd_X9_holds ⟨rfl, na_X9_holds⟩ mB_blind (mr_recv hK hM) (mr_B hK hM) hl.1 (Nat.le_of_ble_eq_true rfl) ⟨Nat.le_of_ble_eq_true rfl, Nat.le_of_ble_eq_true rfl⟩ ⟨Nat.le_refl _, Nat.le_refl _⟩ rfl dX9_fill_45) hS (fun _ h => h) (fun r13 M13 H locs hp13 hM hS => ?_)
        obtain ⟨hr13, hm13⟩ := hp13
        rw [hm13] at hM
        refine top_i (y := 0) (hr13.trans (by decide)) ?_
        refine lv_if_ne (tgt := 53) hx hb dX9_fill_48 (by decide) (fun c => absurd c (by decide)) (fun _ => ?_)
        refine lv_iconst (v := 0) hx hb dX9_fill_51 (by decide) ?_
        subst hQ
        exact rt_mi hx hb hr hlk hM.none hS  (by simp [fillR, fillF, fillT, upd, thr, oI_none, oI_some, c_1t, hix_t, c_2f, c_5f]) dX9_fill_52
  · refine lv_iconst (v := 1) hx hb dX9_fill_11 (by decide) ?_
    refine lv_goto (tgt := 45) hx hb dX9_fill_12 (by decide) ?_
    refine mcl_i (run_V hC (c9_holds l G ma M D 1 hI) (As := [.int 1]) (rest := []) rfl rfl ml_X9_140 im_X9_holds se_X9_holds ini_X9 cd_X9_holds ⟨rfl, na_X9_holds⟩ mB_blind (mr_recv hK hM) (mr_B hK hM) hl.1 (Nat.le_of_ble_eq_true rfl) ⟨Nat.le_of_ble_eq_true rfl, Nat.le_of_ble_eq_true rfl⟩ ⟨Nat.le_refl _, Nat.le_refl _⟩ rfl dX9_fill_45) hS (fun _ h => h) (fun r15 M15 H locs hp15 hM hS => ?_)
    obtain ⟨hr15, hm15⟩ := hp15
    rw [hm15] at hM
    refine top_i (y := 0) (hr15.trans (by decide)) ?_
    refine lv_if_ne (tgt := 53) hx hb dX9_fill_48 (by decide) (fun c => absurd c (by decide)) (fun _ => ?_)
    refine lv_iconst (v := 0) hx hb dX9_fill_51 (by decide) ?_
    subst hQ
    exact rt_mi hx hb hr hlk hM.none hS  (by simp [fillR, fillF, fillT, upd, thr, oI_none, oI_some, c_1f]) dX9_fill_52
set_option maxHeartbeats 4000000 in
set_option maxRecDepth 100000 in
theorem c9_addOrder (l : Launch) (G : gG) (ma : Nat → Nat) (M : MS) (D : mD) (hI : mI ma) (hcnt : CNT M) : Met l yX9_addOrder (wB yX9_addOrder cX9_addOrder 1 (some .int)) (rmL 2 0 0) (va_Pc [.ref (ma 0)] (mB G ma M D)) (mQi G ma none (fun r M' => r = ordR M ∧ M' = ordF M)) 0 0 (mA ma) := by
  refine st_N (own := RX9) (by decide +kernel) rfl (Nat.le_of_ble_eq_true rfl) ?_
  intro p e s m below meth c ls args Q hQ hC hr hlk hnm hl hP
  obtain ⟨hM, hK⟩ := hP
  have hx := hC.1
  have hb := hC.2.1
  have hl : lv_has ls 1 [(0, .ref (ma 0))] := hl
  have hS : va_S (mA ma) s.heap s.heap [] := va_S.rf
  obtain ⟨H, locs, hHe, hLe⟩ : ∃ (H : Heap) (locs : List Loc), H = s.heap ∧ locs = [] := ⟨_, _, rfl, rfl⟩
  rw [← hHe] at hM
  have hS : va_S (mA ma) s.heap H locs := by rw [hHe, hLe]; exact va_S.rf
  suffices hgo : W p l e (rmL 2 0 0) s m args below meth c H locs 0 0 Q (F0 m 0 ls []) by
    rw [hHe, hLe] at hgo
    exact hgo
  clear hHe hLe
  have h6 := hcnt.R6
  have h3 := hcnt.S3
  have h16 := hcnt.T16
  have h10 := hcnt.O10
  refine lv_aload_n hx hb dX9_addOrder_0 rfl (lv_at hl 0 rfl) ?_
  refine lv_aload_n hx hb dX9_addOrder_1 rfl (lv_at hl 0 rfl) ?_
  refine ms_get hC hK hM 10 (by decide) fl_X9_153 rfl (v := .int (nI (nO M))) (congrArg Value.int (show M 10 0 = (nI (nO M)) from hcnt.O)) (fun q => rfl) dX9_addOrder_2 ?_
  refine lv_bipush (v := 10) hx hb dX9_addOrder_5 (by decide) ?_
  refine ln_ne (tgt := 14) (a := (nO M)) (b := 10) hx hb dX9_addOrder_7 (by decide) rfl rfl (by omega) (by omega) (fun c_1t => ?_) (fun c_1f => ?_)
  · refine lv_iconst (v := 0) hx hb dX9_addOrder_14 (by decide) ?_
    refine mcl_i (run_V hC (c9_holds l G ma M D 0 hI) (As := [.int 0]) (rest := []) rfl rfl ml_X9_140 im_X9_holds se_X9_holds ini_X9 cd_X9_holds ⟨rfl, na_X9_holds⟩ mB_blind (mr_recv hK hM) (mr_B hK hM) hl.1 (Nat.le_of_ble_eq_true rfl) ⟨Nat.le_of_ble_eq_true rfl, Nat.le_of_ble_eq_true rfl⟩ ⟨Nat.le_refl _, Nat.le_refl _⟩ rfl dX9_addOrder_15) hS (fun _ h => h) (fun r2 M2 H locs hp2 hM hS => ?_)
    obtain ⟨hr2, hm2⟩ := hp2
    rw [hm2] at hM
    refine top_i (y := 1) (hr2.trans (by decide)) ?_
    refine lv_if_ne (tgt := 23) hx hb dX9_addOrder_18 (by decide) (fun _ => ?_) (fun c => absurd c (by decide))
    refine lv_aload_n hx hb dX9_addOrder_23 rfl (lv_at hl 0 rfl) ?_
    refine lv_dup hx hb dX9_addOrder_24 rfl ?_
    refine ms_get hC hK hM 10 (by decide) fl_X9_153 rfl (v := .int (nI (nO M))) (congrArg Value.int (show (mset M 0 0 0) 10 0 = (nI (nO M)) from hcnt.O)) (fun q => rfl) dX9_addOrder_25 ?_
    refine lv_iconst (v := 1) hx hb dX9_addOrder_28 (by decide) ?_
    refine lv_iadd hx hb dX9_addOrder_29 ?_
    refine top_i (y := nI ((nO M) + 1)) (nI_add (nO M) 1) ?_
    refine ms_put hC hK hI hM hS mA_0 10 (by decide) rfl fl_X9_153 rfl rfl rfl rfl dX9_addOrder_30 (fun H locs hM hS => ?_)
    refine lv_aload_n hx hb dX9_addOrder_33 rfl (lv_at hl 0 rfl) ?_
    refine ms_get hC hK hM 10 (by decide) fl_X9_153 rfl (v := .int (nI ((nO M) + 1))) (congrArg Value.int (show (mset (mset M 0 0 0) 10 0 (nI ((nO M) + 1))) 10 0 = (nI ((nO M) + 1)) from (by simp [mset, upd]))) (fun q => rfl) dX9_addOrder_34 ?_
    refine lv_iconst (v := 1) hx hb dX9_addOrder_37 (by decide) ?_
    refine lv_isub hx hb dX9_addOrder_38 ?_
    refine top_i (y := nI (((nO M) + 1) - 1)) (pk_sub (a := ((nO M) + 1)) (b := 1) (by omega)) ?_
    subst hQ
    exact rt_mi hx hb hr hlk hM.none hS  (by simp [ordR, ordF, ordT, thr, oI_none, oI_some, c_1t]) dX9_addOrder_39
  · refine lv_iconst (v := 1) hx hb dX9_addOrder_10 (by decide) ?_
    refine lv_goto (tgt := 15) hx hb dX9_addOrder_11 (by decide) ?_
    refine mcl_i (run_V hC (c9_holds l G ma M D 1 hI) (As := [.int 1]) (rest := []) rfl rfl ml_X9_140 im_X9_holds se_X9_holds ini_X9 cd_X9_holds ⟨rfl, na_X9_holds⟩ mB_blind (mr_recv hK hM) (mr_B hK hM) hl.1 (Nat.le_of_ble_eq_true rfl) ⟨Nat.le_of_ble_eq_true rfl, Nat.le_of_ble_eq_true rfl⟩ ⟨Nat.le_refl _, Nat.le_refl _⟩ rfl dX9_addOrder_15) hS (fun _ h => h) (fun r4 M4 H locs hp4 hM hS => ?_)
    obtain ⟨hr4, hm4⟩ := hp4
    rw [hm4] at hM
    refine top_i (y := 0) (hr4.trans (by decide)) ?_
    refine lv_if_ne (tgt := 23) hx hb dX9_addOrder_18 (by decide) (fun c => absurd c (by decide)) (fun _ => ?_)
    refine lv_iconst (v := 0) hx hb dX9_addOrder_21 (by decide) ?_
    subst hQ
    exact rt_mi hx hb hr hlk hM.none hS  (by simp [ordR, ordF, ordT, thr, oI_none, oI_some, c_1f]) dX9_addOrder_22
set_option maxHeartbeats 4000000 in
set_option maxRecDepth 100000 in
theorem c9_addLine (l : Launch) (G : gG) (ma : Nat → Nat) (M : MS) (D : mD) (o : Int32) (g : Int32) (a : Int32) (hI : mI ma) (hcnt : CNT M) : Met l yX9_addLine (wB yX9_addLine cX9_addLine 6 (some .int)) (rmL 2 0 0) (va_Pc [.ref (ma 0), .int o, .int g, .int a] (mB G ma M D)) (mQi G ma none (fun r M' => r = lineR M o g a ∧ M' = lineF M o g a)) 0 0 (mA ma) := by
  refine st_N (own := RX9) (by decide +kernel) rfl (Nat.le_of_ble_eq_true rfl) ?_
  intro p e s m below meth c ls args Q hQ hC hr hlk hnm hl hP
  obtain ⟨hM, hK⟩ := hP
  have hx := hC.1
  have hb := hC.2.1
  have hl : lv_has ls 6 [(0, .ref (ma 0)), (1, .int o), (2, .int g), (3, .int a)] := hl
  have hS : va_S (mA ma) s.heap s.heap [] := va_S.rf
  obtain ⟨H, locs, hHe, hLe⟩ : ∃ (H : Heap) (locs : List Loc), H = s.heap ∧ locs = [] := ⟨_, _, rfl, rfl⟩
  rw [← hHe] at hM
  have hS : va_S (mA ma) s.heap H locs := by rw [hHe, hLe]; exact va_S.rf
  suffices hgo : W p l e (rmL 2 0 0) s m args below meth c H locs 0 0 Q (F0 m 0 ls []) by
    rw [hHe, hLe] at hgo
    exact hgo
  clear hHe hLe
  have h6 := hcnt.R6
  have h3 := hcnt.S3
  have h16 := hcnt.T16
  have h10 := hcnt.O10
  refine lv_iload_n hx hb dX9_addLine_0 rfl (lv_at hl 1 rfl) ?_
  refine lv_aload_n hx hb dX9_addLine_1 rfl (lv_at hl 0 rfl) ?_
  refine ms_get hC hK hM 10 (by decide) fl_X9_153 rfl (v := .int (nI (nO M))) (congrArg Value.int (show M 10 0 = (nI (nO M)) from hcnt.O)) (fun q => rfl) dX9_addLine_2 ?_
  refine cl_p (run_S hC (c9_isIn l o (nI (nO M))) (As := [.int o, .int (nI (nO M))]) (rest := []) rfl rfl ml_X9_99 sm_X9_isIn ini_X9 cd_X9_isIn na_X9_isIn tB_blind (fun _ _ _ => trivial) hl.1 (Nat.le_of_ble_eq_true rfl) ⟨Nat.le_of_ble_eq_true rfl, Nat.le_of_ble_eq_true rfl⟩ ⟨Nat.le_refl _, Nat.le_refl _⟩ rfl dX9_addLine_5) ?_
  refine lv_istore (lv' := [(4, .int (bI (inB o (nI (nO M))))), (0, .ref (ma 0)), (1, .int o), (2, .int g), (3, .int a)]) hx hb dX9_addLine_8 hl (by decide) rfl (fun ls hl => ?_)
  refine lv_aload_n hx hb dX9_addLine_10 rfl (lv_at hl 1 rfl) ?_
  refine lv_iload hx hb dX9_addLine_11 (lv_at hl 0 rfl) ?_
  refine lb_ne (tgt := 20) (b := (inB o (nI (nO M)))) hx hb dX9_addLine_13 (by decide) (fun c_1t => ?_) (fun c_1f => ?_)
  · obtain ⟨j_o, hlt_o, rfl⟩ := inB_of (n := nO M) (by omega) c_1t
    have hix_o := ix_nI (n := j_o) (by omega)
    have hL3_o := hcnt.L3 (o := j_o) (by omega)
    refine lv_iload_n hx hb dX9_addLine_20 rfl (lv_at hl 3 rfl) ?_
    refine lv_bipush (v := 6) hx hb dX9_addLine_21 (by decide) ?_
    refine cl_p (run_S hC (c9_isIn l g 6) (As := [.int g, .int 6]) (rest := [.ref (ma 0)]) rfl rfl ml_X9_99 sm_X9_isIn ini_X9 cd_X9_isIn na_X9_isIn tB_blind (fun _ _ _ => trivial) hl.1 (Nat.le_of_ble_eq_true rfl) ⟨Nat.le_of_ble_eq_true rfl, Nat.le_of_ble_eq_true rfl⟩ ⟨Nat.le_refl _, Nat.le_refl _⟩ rfl dX9_addLine_23) ?_
    refine lb_eq (tgt := 40) (b := (inB g 6)) hx hb dX9_addLine_26 (by decide) (fun c_2t => ?_) (fun c_2f => ?_)
    · refine lv_iconst (v := 2) hx hb dX9_addLine_40 (by decide) ?_
      refine lv_goto (tgt := 59) hx hb dX9_addLine_41 (by decide) ?_
      refine mcl_i (run_V hC (c9_holds l G ma M D 2 hI) (As := [.int 2]) (rest := []) rfl rfl ml_X9_140 im_X9_holds se_X9_holds ini_X9 cd_X9_holds ⟨rfl, na_X9_holds⟩ mB_blind (mr_recv hK hM) (mr_B hK hM) hl.1 (Nat.le_of_ble_eq_true rfl) ⟨Nat.le_of_ble_eq_true rfl, Nat.le_of_ble_eq_true rfl⟩ ⟨Nat.le_refl _, Nat.le_refl _⟩ rfl dX9_addLine_59) hS (fun _ h => h) (fun r3 M3 H locs hp3 hM hS => ?_)
      obtain ⟨hr3, hm3⟩ := hp3
      rw [hm3] at hM
      refine top_i (y := 0) (hr3.trans (by decide)) ?_
      refine lv_if_ne (tgt := 67) hx hb dX9_addLine_62 (by decide) (fun c => absurd c (by decide)) (fun _ => ?_)
      refine lv_iconst (v := 0) hx hb dX9_addLine_65 (by decide) ?_
      subst hQ
      exact rt_mi hx hb hr hlk hM.none hS  (by simp [lineR, lineF, lineT, thr, oI_none, oI_some, c_1t, hix_o, c_2t]) dX9_addLine_66
    · obtain ⟨j_g, hlt_g, rfl⟩ := inB_of (n := 6) (by decide) c_2f
      have hix_g := ix_nI (n := j_g) (by omega)
      refine lv_iload_n hx hb dX9_addLine_29 rfl (lv_at hl 4 rfl) ?_
      refine lv_iconst (v := 1) hx hb dX9_addLine_30 (by decide) ?_
      refine lv_icmp_lt (tgt := 40) hx hb dX9_addLine_31 (by decide) (fun c_5t => ?_) (fun c_5f => ?_)
      · refine lv_iconst (v := 2) hx hb dX9_addLine_40 (by decide) ?_
        refine lv_goto (tgt := 59) hx hb dX9_addLine_41 (by decide) ?_
        refine mcl_i (run_V hC (c9_holds l G ma M D 2 hI) (As := [.int 2]) (rest := []) rfl rfl ml_X9_140 im_X9_holds se_X9_holds ini_X9 cd_X9_holds ⟨rfl, na_X9_holds⟩ mB_blind (mr_recv hK hM) (mr_B hK hM) hl.1 (Nat.le_of_ble_eq_true rfl) ⟨Nat.le_of_ble_eq_true rfl, Nat.le_of_ble_eq_true rfl⟩ ⟨Nat.le_refl _, Nat.le_refl _⟩ rfl dX9_addLine_59) hS (fun _ h => h) (fun r6 M6 H locs hp6 hM hS => ?_)
        obtain ⟨hr6, hm6⟩ := hp6
        rw [hm6] at hM
        refine top_i (y := 0) (hr6.trans (by decide)) ?_
        refine lv_if_ne (tgt := 67) hx hb dX9_addLine_62 (by decide) (fun c => absurd c (by decide)) (fun _ => ?_)
        refine lv_iconst (v := 0) hx hb dX9_addLine_65 (by decide) ?_
        subst hQ
        exact rt_mi hx hb hr hlk hM.none hS  (by simp [lineR, lineF, lineT, thr, oI_none, oI_some, c_1t, hix_o, c_2f, hix_g, c_5t]) dX9_addLine_66
      · refine lv_iload_n hx hb dX9_addLine_34 rfl (lv_at hl 4 rfl) ?_
        refine lv_bipush (v := 50) hx hb dX9_addLine_35 (by decide) ?_
        refine lv_icmp_le (tgt := 44) hx hb dX9_addLine_37 (by decide) (fun c_8t => ?_) (fun c_8f => ?_)
        · refine lv_aload_n hx hb dX9_addLine_44 rfl (lv_at hl 1 rfl) ?_
          refine ms_get hC hK hM 11 (by decide) fl_X9_29 rfl (v := .ref (ma 11)) rfl (fun q => rfl) dX9_addLine_45 ?_
          refine lv_iload_n hx hb dX9_addLine_48 rfl (lv_at hl 2 rfl) ?_
          refine ms_ild hC hK hM 11 (i := j_o) (show j_o < 10 from by omega) (by decide) rfl rfl (v := nI (nL M j_o)) (hcnt.L (by omega)) dX9_addLine_49 ?_
          refine lv_iconst (v := 3) hx hb dX9_addLine_50 (by decide) ?_
          refine ln_ne (tgt := 58) (a := (nL M j_o)) (b := 3) hx hb dX9_addLine_51 (by decide) rfl rfl (by omega) (by omega) (fun c_9t => ?_) (fun c_9f => ?_)
          · refine lv_iconst (v := 0) hx hb dX9_addLine_58 (by decide) ?_
            refine mcl_i (run_V hC (c9_holds l G ma M D 0 hI) (As := [.int 0]) (rest := []) rfl rfl ml_X9_140 im_X9_holds se_X9_holds ini_X9 cd_X9_holds ⟨rfl, na_X9_holds⟩ mB_blind (mr_recv hK hM) (mr_B hK hM) hl.1 (Nat.le_of_ble_eq_true rfl) ⟨Nat.le_of_ble_eq_true rfl, Nat.le_of_ble_eq_true rfl⟩ ⟨Nat.le_refl _, Nat.le_refl _⟩ rfl dX9_addLine_59) hS (fun _ h => h) (fun r10 M10 H locs hp10 hM hS => ?_)
            obtain ⟨hr10, hm10⟩ := hp10
            rw [hm10] at hM
            refine top_i (y := 1) (hr10.trans (by decide)) ?_
            refine lv_if_ne (tgt := 67) hx hb dX9_addLine_62 (by decide) (fun _ => ?_) (fun c => absurd c (by decide))
            refine lv_iconst (v := 3) hx hb dX9_addLine_67 (by decide) ?_
            refine lv_iload_n hx hb dX9_addLine_68 rfl (lv_at hl 2 rfl) ?_
            refine lv_imul hx hb dX9_addLine_69 ?_
            refine top_i (y := nI (3 * j_o)) (pk_mul 3 j_o) ?_
            refine lv_aload_n hx hb dX9_addLine_70 rfl (lv_at hl 1 rfl) ?_
            refine ms_get hC hK hM 11 (by decide) fl_X9_29 rfl (v := .ref (ma 11)) rfl (fun q => rfl) dX9_addLine_71 ?_
            refine lv_iload_n hx hb dX9_addLine_74 rfl (lv_at hl 2 rfl) ?_
            refine ms_ild hC hK hM 11 (i := j_o) (show j_o < 10 from by omega) (by decide) rfl rfl (v := nI (nL M j_o)) (hcnt.L (by omega)) dX9_addLine_75 ?_
            refine lv_iadd hx hb dX9_addLine_76 ?_
            refine top_i (y := nI ((3 * j_o) + (nL M j_o))) (nI_add (3 * j_o) (nL M j_o)) ?_
            refine lv_istore (lv' := [(5, .int (nI ((3 * j_o) + (nL M j_o)))), (4, .int (bI (inB (nI j_o) (nI (nO M))))), (0, .ref (ma 0)), (1, .int (nI j_o)), (2, .int (nI j_g)), (3, .int a)]) hx hb dX9_addLine_77 hl (by decide) rfl (fun ls hl => ?_)
            refine lv_aload_n hx hb dX9_addLine_79 rfl (lv_at hl 2 rfl) ?_
            refine ms_get hC hK hM 12 (by decide) fl_X9_32 rfl (v := .ref (ma 12)) rfl (fun q => rfl) dX9_addLine_80 ?_
            refine lv_iload hx hb dX9_addLine_83 (lv_at hl 0 rfl) ?_
            refine lv_iload_n hx hb dX9_addLine_85 rfl (lv_at hl 4 rfl) ?_
            refine ms_ist hC hK hI hM hS 12 (mA_k (by decide)) (i := ((3 * j_o) + (nL M j_o))) (show (3 * j_o) + (nL M j_o) < 30 from by omega) rfl rfl dX9_addLine_86 (fun H locs hM hS => ?_)
            refine lv_aload_n hx hb dX9_addLine_87 rfl (lv_at hl 2 rfl) ?_
            refine ms_get hC hK hM 13 (by decide) fl_X9_35 rfl (v := .ref (ma 13)) rfl (fun q => rfl) dX9_addLine_88 ?_
            refine lv_iload hx hb dX9_addLine_91 (lv_at hl 0 rfl) ?_
            refine lv_iload_n hx hb dX9_addLine_93 rfl (lv_at hl 5 rfl) ?_
            refine ms_ist hC hK hI hM hS 13 (mA_k (by decide)) (i := ((3 * j_o) + (nL M j_o))) (show (3 * j_o) + (nL M j_o) < 30 from by omega) rfl rfl dX9_addLine_94 (fun H locs hM hS => ?_)
            refine lv_aload_n hx hb dX9_addLine_95 rfl (lv_at hl 2 rfl) ?_
            refine ms_get hC hK hM 14 (by decide) fl_X9_38 rfl (v := .ref (ma 14)) rfl (fun q => rfl) dX9_addLine_96 ?_
            refine lv_iload hx hb dX9_addLine_99 (lv_at hl 0 rfl) ?_
            refine lv_iconst (v := (-1)) hx hb dX9_addLine_101 (by decide) ?_
            refine ms_ist hC hK hI hM hS 14 (mA_k (by decide)) (i := ((3 * j_o) + (nL M j_o))) (show (3 * j_o) + (nL M j_o) < 30 from by omega) rfl rfl dX9_addLine_102 (fun H locs hM hS => ?_)
            refine lv_aload_n hx hb dX9_addLine_103 rfl (lv_at hl 2 rfl) ?_
            refine ms_get hC hK hM 11 (by decide) fl_X9_29 rfl (v := .ref (ma 11)) rfl (fun q => rfl) dX9_addLine_104 ?_
            refine lv_iload_n hx hb dX9_addLine_107 rfl (lv_at hl 3 rfl) ?_
            refine lv_dup2_11 hx hb dX9_addLine_108 rfl rfl ?_
            refine ms_ild hC hK hM 11 (i := j_o) (show j_o < 10 from by omega) (by decide) rfl rfl (v := nI (nL M j_o)) (hcnt.L (by omega)) dX9_addLine_109 ?_
            refine lv_iconst (v := 1) hx hb dX9_addLine_110 (by decide) ?_
            refine lv_iadd hx hb dX9_addLine_111 ?_
            refine top_i (y := nI ((nL M j_o) + 1)) (nI_add (nL M j_o) 1) ?_
            refine ms_ist hC hK hI hM hS 11 (mA_k (by decide)) (i := j_o) (show j_o < 10 from by omega) rfl rfl dX9_addLine_112 (fun H locs hM hS => ?_)
            refine lv_aload_n hx hb dX9_addLine_113 rfl (lv_at hl 2 rfl) ?_
            refine ms_get hC hK hM 11 (by decide) fl_X9_29 rfl (v := .ref (ma 11)) rfl (fun q => rfl) dX9_addLine_114 ?_
            refine lv_iload_n hx hb dX9_addLine_117 rfl (lv_at hl 3 rfl) ?_
            refine ms_ild hC hK hM 11 (i := j_o) (show j_o < 10 from by omega) (by decide) rfl rfl (v := nI ((nL M j_o) + 1)) (by simp [mset, upd]) dX9_addLine_118 ?_
            refine lv_iconst (v := 1) hx hb dX9_addLine_119 (by decide) ?_
            refine lv_isub hx hb dX9_addLine_120 ?_
            refine top_i (y := nI (((nL M j_o) + 1) - 1)) (pk_sub (a := ((nL M j_o) + 1)) (b := 1) (by omega)) ?_
            subst hQ
            exact rt_mi hx hb hr hlk hM.none hS  (by simp [lineR, lineF, lineT, thr, oI_none, oI_some, c_1t, hix_o, c_2f, hix_g, c_5f, c_8t, c_9t]) dX9_addLine_121
          · refine lv_iconst (v := 3) hx hb dX9_addLine_54 (by decide) ?_
            refine lv_goto (tgt := 59) hx hb dX9_addLine_55 (by decide) ?_
            refine mcl_i (run_V hC (c9_holds l G ma M D 3 hI) (As := [.int 3]) (rest := []) rfl rfl ml_X9_140 im_X9_holds se_X9_holds ini_X9 cd_X9_holds ⟨rfl, na_X9_holds⟩ mB_blind (mr_recv hK hM) (mr_B hK hM) hl.1 (Nat.le_of_ble_eq_true rfl) ⟨Nat.le_of_ble_eq_true rfl, Nat.le_of_ble_eq_true rfl⟩ ⟨Nat.le_refl _, Nat.le_refl _⟩ rfl dX9_addLine_59) hS (fun _ h => h) (fun r12 M12 H locs hp12 hM hS => ?_)
            obtain ⟨hr12, hm12⟩ := hp12
            rw [hm12] at hM
            refine top_i (y := 0) (hr12.trans (by decide)) ?_
            refine lv_if_ne (tgt := 67) hx hb dX9_addLine_62 (by decide) (fun c => absurd c (by decide)) (fun _ => ?_)
            refine lv_iconst (v := 0) hx hb dX9_addLine_65 (by decide) ?_
            subst hQ
            exact rt_mi hx hb hr hlk hM.none hS  (by simp [lineR, lineF, lineT, thr, oI_none, oI_some, c_1t, hix_o, c_2f, hix_g, c_5f, c_8t, c_9f]) dX9_addLine_66
        · refine lv_iconst (v := 2) hx hb dX9_addLine_40 (by decide) ?_
          refine lv_goto (tgt := 59) hx hb dX9_addLine_41 (by decide) ?_
          refine mcl_i (run_V hC (c9_holds l G ma M D 2 hI) (As := [.int 2]) (rest := []) rfl rfl ml_X9_140 im_X9_holds se_X9_holds ini_X9 cd_X9_holds ⟨rfl, na_X9_holds⟩ mB_blind (mr_recv hK hM) (mr_B hK hM) hl.1 (Nat.le_of_ble_eq_true rfl) ⟨Nat.le_of_ble_eq_true rfl, Nat.le_of_ble_eq_true rfl⟩ ⟨Nat.le_refl _, Nat.le_refl _⟩ rfl dX9_addLine_59) hS (fun _ h => h) (fun r14 M14 H locs hp14 hM hS => ?_)
          obtain ⟨hr14, hm14⟩ := hp14
          rw [hm14] at hM
          refine top_i (y := 0) (hr14.trans (by decide)) ?_
          refine lv_if_ne (tgt := 67) hx hb dX9_addLine_62 (by decide) (fun c => absurd c (by decide)) (fun _ => ?_)
          refine lv_iconst (v := 0) hx hb dX9_addLine_65 (by decide) ?_
          subst hQ
          exact rt_mi hx hb hr hlk hM.none hS  (by simp [lineR, lineF, lineT, thr, oI_none, oI_some, c_1t, hix_o, c_2f, hix_g, c_5f, c_8f]) dX9_addLine_66
  · refine lv_iconst (v := 1) hx hb dX9_addLine_16 (by decide) ?_
    refine lv_goto (tgt := 59) hx hb dX9_addLine_17 (by decide) ?_
    refine mcl_i (run_V hC (c9_holds l G ma M D 1 hI) (As := [.int 1]) (rest := []) rfl rfl ml_X9_140 im_X9_holds se_X9_holds ini_X9 cd_X9_holds ⟨rfl, na_X9_holds⟩ mB_blind (mr_recv hK hM) (mr_B hK hM) hl.1 (Nat.le_of_ble_eq_true rfl) ⟨Nat.le_of_ble_eq_true rfl, Nat.le_of_ble_eq_true rfl⟩ ⟨Nat.le_refl _, Nat.le_refl _⟩ rfl dX9_addLine_59) hS (fun _ h => h) (fun r16 M16 H locs hp16 hM hS => ?_)
    obtain ⟨hr16, hm16⟩ := hp16
    rw [hm16] at hM
    refine top_i (y := 0) (hr16.trans (by decide)) ?_
    refine lv_if_ne (tgt := 67) hx hb dX9_addLine_62 (by decide) (fun c => absurd c (by decide)) (fun _ => ?_)
    refine lv_iconst (v := 0) hx hb dX9_addLine_65 (by decide) ?_
    subst hQ
    exact rt_mi hx hb hr hlk hM.none hS  (by simp [lineR, lineF, lineT, thr, oI_none, oI_some, c_1f]) dX9_addLine_66
set_option maxHeartbeats 4000000 in
set_option maxRecDepth 100000 in
theorem c9_claim (l : Launch) (G : gG) (ma : Nat → Nat) (M : MS) (D : mD) (sn : Int32) (o : Int32) (n : Int32) (hI : mI ma) (hcnt : CNT M) : Met l yX9_claim (wB yX9_claim cX9_claim 7 (some .int)) (rmL 3 0 0) (va_Pc [.ref (ma 0), .int sn, .int o, .int n] (mB G ma M D)) (mQi G ma none (fun r M' => r = clmR M sn o n ∧ M' = clmF M sn o n)) 0 0 (mA ma) := by
  refine st_N (own := RX9) (by decide +kernel) rfl (Nat.le_of_ble_eq_true rfl) ?_
  intro p e s m below meth c ls args Q hQ hC hr hlk hnm hl hP
  obtain ⟨hM, hK⟩ := hP
  have hx := hC.1
  have hb := hC.2.1
  have hl : lv_has ls 7 [(0, .ref (ma 0)), (1, .int sn), (2, .int o), (3, .int n)] := hl
  have hS : va_S (mA ma) s.heap s.heap [] := va_S.rf
  obtain ⟨H, locs, hHe, hLe⟩ : ∃ (H : Heap) (locs : List Loc), H = s.heap ∧ locs = [] := ⟨_, _, rfl, rfl⟩
  rw [← hHe] at hM
  have hS : va_S (mA ma) s.heap H locs := by rw [hHe, hLe]; exact va_S.rf
  suffices hgo : W p l e (rmL 3 0 0) s m args below meth c H locs 0 0 Q (F0 m 0 ls []) by
    rw [hHe, hLe] at hgo
    exact hgo
  clear hHe hLe
  have h6 := hcnt.R6
  have h3 := hcnt.S3
  have h16 := hcnt.T16
  have h10 := hcnt.O10
  refine lv_iload_n hx hb dX9_claim_0 rfl (lv_at hl 1 rfl) ?_
  refine lv_aload_n hx hb dX9_claim_1 rfl (lv_at hl 0 rfl) ?_
  refine ms_get hC hK hM 4 (by decide) fl_X9_106 rfl (v := .int (nI (nS M))) (congrArg Value.int (show M 4 0 = (nI (nS M)) from hcnt.S)) (fun q => rfl) dX9_claim_2 ?_
  refine cl_p (run_S hC (c9_isIn l sn (nI (nS M))) (As := [.int sn, .int (nI (nS M))]) (rest := []) rfl rfl ml_X9_99 sm_X9_isIn ini_X9 cd_X9_isIn na_X9_isIn tB_blind (fun _ _ _ => trivial) hl.1 (Nat.le_of_ble_eq_true rfl) ⟨Nat.le_of_ble_eq_true rfl, Nat.le_of_ble_eq_true rfl⟩ ⟨Nat.le_refl _, Nat.le_refl _⟩ rfl dX9_claim_5) ?_
  refine lb_eq (tgt := 24) (b := (inB sn (nI (nS M)))) hx hb dX9_claim_8 (by decide) (fun c_1t => ?_) (fun c_1f => ?_)
  · refine lv_iconst (v := 0) hx hb dX9_claim_24 (by decide) ?_
    refine lv_istore (lv' := [(4, .int 0), (0, .ref (ma 0)), (1, .int sn), (2, .int o), (3, .int n)]) hx hb dX9_claim_25 hl (by decide) rfl (fun ls hl => ?_)
    refine lv_aload_n hx hb dX9_claim_27 rfl (lv_at hl 1 rfl) ?_
    refine lv_iload hx hb dX9_claim_28 (lv_at hl 0 rfl) ?_
    refine lv_if_ne (tgt := 37) hx hb dX9_claim_30 (by decide) (fun c => absurd c (by decide)) (fun _ => ?_)
    refine lv_iconst (v := 1) hx hb dX9_claim_33 (by decide) ?_
    refine lv_goto (tgt := 56) hx hb dX9_claim_34 (by decide) ?_
    refine mcl_i (run_V hC (c9_holds l G ma M D 1 hI) (As := [.int 1]) (rest := []) rfl rfl ml_X9_140 im_X9_holds se_X9_holds ini_X9 cd_X9_holds ⟨rfl, na_X9_holds⟩ mB_blind (mr_recv hK hM) (mr_B hK hM) hl.1 (Nat.le_of_ble_eq_true rfl) ⟨Nat.le_of_ble_eq_true rfl, Nat.le_of_ble_eq_true rfl⟩ ⟨Nat.le_refl _, Nat.le_refl _⟩ rfl dX9_claim_56) hS (fun _ h => h) (fun r3 M3 H locs hp3 hM hS => ?_)
    obtain ⟨hr3, hm3⟩ := hp3
    rw [hm3] at hM
    refine top_i (y := 0) (hr3.trans (by decide)) ?_
    refine lv_if_ne (tgt := 64) hx hb dX9_claim_59 (by decide) (fun c => absurd c (by decide)) (fun _ => ?_)
    refine lv_iconst (v := 0) hx hb dX9_claim_62 (by decide) ?_
    subst hQ
    exact rt_mi hx hb hr hlk hM.none hS  (by simp [clmR, clmF, clmT, thr, oI_none, oI_some, c_1t]) dX9_claim_63
  · obtain ⟨j_sn, hlt_sn, rfl⟩ := inB_of (n := nS M) (by omega) c_1f
    have hix_sn := ix_nI (n := j_sn) (by omega)
    refine lv_aload_n hx hb dX9_claim_11 rfl (lv_at hl 0 rfl) ?_
    refine lv_iload_n hx hb dX9_claim_12 rfl (lv_at hl 2 rfl) ?_
    refine lv_iload_n hx hb dX9_claim_13 rfl (lv_at hl 3 rfl) ?_
    refine cl_p (run_V hC (c9_isLine l G ma M D o n hcnt) (As := [.int o, .int n]) (rest := []) rfl rfl ml_X9_156 im_X9_isLine se_X9_isLine ini_X9 cd_X9_isLine ⟨rfl, na_X9_isLine⟩ mB_blind (mr_recv hK hM) (mr_B hK hM) hl.1 (Nat.le_of_ble_eq_true rfl) ⟨Nat.le_of_ble_eq_true rfl, Nat.le_of_ble_eq_true rfl⟩ ⟨Nat.le_refl _, Nat.le_refl _⟩ rfl dX9_claim_14) ?_
    refine lb_eq (tgt := 24) (b := (lnB M o n)) hx hb dX9_claim_17 (by decide) (fun c_5t => ?_) (fun c_5f => ?_)
    · refine lv_iconst (v := 0) hx hb dX9_claim_24 (by decide) ?_
      refine lv_istore (lv' := [(4, .int 0), (0, .ref (ma 0)), (1, .int (nI j_sn)), (2, .int o), (3, .int n)]) hx hb dX9_claim_25 hl (by decide) rfl (fun ls hl => ?_)
      refine lv_aload_n hx hb dX9_claim_27 rfl (lv_at hl 1 rfl) ?_
      refine lv_iload hx hb dX9_claim_28 (lv_at hl 0 rfl) ?_
      refine lv_if_ne (tgt := 37) hx hb dX9_claim_30 (by decide) (fun c => absurd c (by decide)) (fun _ => ?_)
      refine lv_iconst (v := 1) hx hb dX9_claim_33 (by decide) ?_
      refine lv_goto (tgt := 56) hx hb dX9_claim_34 (by decide) ?_
      refine mcl_i (run_V hC (c9_holds l G ma M D 1 hI) (As := [.int 1]) (rest := []) rfl rfl ml_X9_140 im_X9_holds se_X9_holds ini_X9 cd_X9_holds ⟨rfl, na_X9_holds⟩ mB_blind (mr_recv hK hM) (mr_B hK hM) hl.1 (Nat.le_of_ble_eq_true rfl) ⟨Nat.le_of_ble_eq_true rfl, Nat.le_of_ble_eq_true rfl⟩ ⟨Nat.le_refl _, Nat.le_refl _⟩ rfl dX9_claim_56) hS (fun _ h => h) (fun r7 M7 H locs hp7 hM hS => ?_)
      obtain ⟨hr7, hm7⟩ := hp7
      rw [hm7] at hM
      refine top_i (y := 0) (hr7.trans (by decide)) ?_
      refine lv_if_ne (tgt := 64) hx hb dX9_claim_59 (by decide) (fun c => absurd c (by decide)) (fun _ => ?_)
      refine lv_iconst (v := 0) hx hb dX9_claim_62 (by decide) ?_
      subst hQ
      exact rt_mi hx hb hr hlk hM.none hS  (by simp [clmR, clmF, clmT, thr, oI_none, oI_some, c_1f, hix_sn, c_5t]) dX9_claim_63
    · obtain ⟨j_o, j_n, hlt_o, hlt_n, rfl, rfl⟩ := lnB_of hcnt c_5f
      have hL3 := hcnt.L3 (o := j_o) (by omega)
      have hix_o := ix_nI (n := j_o) (by omega)
      have hix_n := ix_nI (n := j_n) (by omega)
      refine lv_iconst (v := 1) hx hb dX9_claim_20 (by decide) ?_
      refine lv_goto (tgt := 25) hx hb dX9_claim_21 (by decide) ?_
      refine lv_istore (lv' := [(4, .int 1), (0, .ref (ma 0)), (1, .int (nI j_sn)), (2, .int (nI j_o)), (3, .int (nI j_n))]) hx hb dX9_claim_25 hl (by decide) rfl (fun ls hl => ?_)
      refine lv_aload_n hx hb dX9_claim_27 rfl (lv_at hl 1 rfl) ?_
      refine lv_iload hx hb dX9_claim_28 (lv_at hl 0 rfl) ?_
      refine lv_if_ne (tgt := 37) hx hb dX9_claim_30 (by decide) (fun _ => ?_) (fun c => absurd c (by decide))
      refine lv_aload_n hx hb dX9_claim_37 rfl (lv_at hl 1 rfl) ?_
      refine ms_get hC hK hM 14 (by decide) fl_X9_38 rfl (v := .ref (ma 14)) rfl (fun q => rfl) dX9_claim_38 ?_
      refine lv_iconst (v := 3) hx hb dX9_claim_41 (by decide) ?_
      refine lv_iload_n hx hb dX9_claim_42 rfl (lv_at hl 3 rfl) ?_
      refine lv_imul hx hb dX9_claim_43 ?_
      refine top_i (y := nI (3 * j_o)) (pk_mul 3 j_o) ?_
      refine lv_iload_n hx hb dX9_claim_44 rfl (lv_at hl 4 rfl) ?_
      refine lv_iadd hx hb dX9_claim_45 ?_
      refine top_i (y := nI ((3 * j_o) + j_n)) (nI_add (3 * j_o) j_n) ?_
      refine ms_ild hC hK hM 14 (i := ((3 * j_o) + j_n)) (show (3 * j_o) + j_n < 30 from by omega) (by decide) rfl rfl (v := M 14 ((3 * j_o) + j_n)) rfl dX9_claim_46 ?_
      refine lv_iconst (v := (-1)) hx hb dX9_claim_47 (by decide) ?_
      refine lv_icmp_eq (tgt := 55) hx hb dX9_claim_48 (by decide) (fun c_10t => ?_) (fun c_10f => ?_)
      · refine lv_iconst (v := 0) hx hb dX9_claim_55 (by decide) ?_
        refine mcl_i (run_V hC (c9_holds l G ma M D 0 hI) (As := [.int 0]) (rest := []) rfl rfl ml_X9_140 im_X9_holds se_X9_holds ini_X9 cd_X9_holds ⟨rfl, na_X9_holds⟩ mB_blind (mr_recv hK hM) (mr_B hK hM) hl.1 (Nat.le_of_ble_eq_true rfl) ⟨Nat.le_of_ble_eq_true rfl, Nat.le_of_ble_eq_true rfl⟩ ⟨Nat.le_refl _, Nat.le_refl _⟩ rfl dX9_claim_56) hS (fun _ h => h) (fun r11 M11 H locs hp11 hM hS => ?_)
        obtain ⟨hr11, hm11⟩ := hp11
        rw [hm11] at hM
        refine top_i (y := 1) (hr11.trans (by decide)) ?_
        refine lv_if_ne (tgt := 64) hx hb dX9_claim_59 (by decide) (fun _ => ?_) (fun c => absurd c (by decide))
        refine lv_aload_n hx hb dX9_claim_64 rfl (lv_at hl 1 rfl) ?_
        refine lv_dup hx hb dX9_claim_65 rfl ?_
        refine ms_get hC hK hM 16 (by decide) fl_X9_159 rfl (v := .int (M 16 0)) rfl (fun q => rfl) dX9_claim_66 ?_
        refine lv_iconst (v := 1) hx hb dX9_claim_69 (by decide) ?_
        refine lv_iadd hx hb dX9_claim_70 ?_
        refine ms_put hC hK hI hM hS mA_0 16 (by decide) rfl fl_X9_159 rfl rfl rfl rfl dX9_claim_71 (fun H locs hM hS => ?_)
        refine lv_aload_n hx hb dX9_claim_74 rfl (lv_at hl 1 rfl) ?_
        refine ms_get hC hK hM 14 (by decide) fl_X9_38 rfl (v := .ref (ma 14)) rfl (fun q => rfl) dX9_claim_75 ?_
        refine lv_iconst (v := 3) hx hb dX9_claim_78 (by decide) ?_
        refine lv_iload_n hx hb dX9_claim_79 rfl (lv_at hl 3 rfl) ?_
        refine lv_imul hx hb dX9_claim_80 ?_
        refine top_i (y := nI (3 * j_o)) (pk_mul 3 j_o) ?_
        refine lv_iload_n hx hb dX9_claim_81 rfl (lv_at hl 4 rfl) ?_
        refine lv_iadd hx hb dX9_claim_82 ?_
        refine top_i (y := nI ((3 * j_o) + j_n)) (nI_add (3 * j_o) j_n) ?_
        refine lv_iload_n hx hb dX9_claim_83 rfl (lv_at hl 2 rfl) ?_
        refine ms_ist hC hK hI hM hS 14 (mA_k (by decide)) (i := ((3 * j_o) + j_n)) (show (3 * j_o) + j_n < 30 from by omega) rfl rfl dX9_claim_84 (fun H locs hM hS => ?_)
        refine lv_aload_n hx hb dX9_claim_85 rfl (lv_at hl 1 rfl) ?_
        refine ms_get hC hK hM 15 (by decide) fl_X9_41 rfl (v := .ref (ma 15)) rfl (fun q => rfl) dX9_claim_86 ?_
        refine lv_iconst (v := 3) hx hb dX9_claim_89 (by decide) ?_
        refine lv_iload_n hx hb dX9_claim_90 rfl (lv_at hl 3 rfl) ?_
        refine lv_imul hx hb dX9_claim_91 ?_
        refine top_i (y := nI (3 * j_o)) (pk_mul 3 j_o) ?_
        refine lv_iload_n hx hb dX9_claim_92 rfl (lv_at hl 4 rfl) ?_
        refine lv_iadd hx hb dX9_claim_93 ?_
        refine top_i (y := nI ((3 * j_o) + j_n)) (nI_add (3 * j_o) j_n) ?_
        refine lv_aload_n hx hb dX9_claim_94 rfl (lv_at hl 1 rfl) ?_
        refine ms_get hC hK hM 16 (by decide) fl_X9_159 rfl (v := .int ((M 16 0) + 1)) (congrArg Value.int (show (mset (mset (mset M 0 0 0) 16 0 ((M 16 0) + 1)) 14 ((3 * j_o) + j_n) (nI j_sn)) 16 0 = ((M 16 0) + 1) from (by simp [mset, upd]))) (fun q => rfl) dX9_claim_95 ?_
        refine ms_ist hC hK hI hM hS 15 (mA_k (by decide)) (i := ((3 * j_o) + j_n)) (show (3 * j_o) + j_n < 30 from by omega) rfl rfl dX9_claim_98 (fun H locs hM hS => ?_)
        refine lv_iconst (v := 0) hx hb dX9_claim_99 (by decide) ?_
        refine lv_istore (lv' := [(5, .int 0), (4, .int 1), (0, .ref (ma 0)), (1, .int (nI j_sn)), (2, .int (nI j_o)), (3, .int (nI j_n))]) hx hb dX9_claim_100 hl (by decide) rfl (fun ls hl => ?_)
        refine lv_iconst (v := 0) hx hb dX9_claim_102 (by decide) ?_
        refine lv_istore (lv' := [(6, .int 0), (5, .int 0), (4, .int 1), (0, .ref (ma 0)), (1, .int (nI j_sn)), (2, .int (nI j_o)), (3, .int (nI j_n))]) hx hb dX9_claim_103 hl (by decide) rfl (fun ls hl => ?_)
        obtain ⟨Mc, hMc⟩ : ∃ z, z = (mset (mset (mset (mset M 0 0 0) 16 0 ((M 16 0) + 1)) 14 ((3 * j_o) + j_n) (nI j_sn)) 15 ((3 * j_o) + j_n) ((M 16 0) + 1)) := ⟨_, rfl⟩
        rw [← hMc] at hM
        have hcntc : CNT Mc := by rw [hMc]; exact ((hcnt.set rfl).set rfl).set rfl |>.set rfl
        have loop13 : ∀ (n : Nat) (k : Nat) (q : Nat) (H : Heap) (locs : List Loc) (ls : Array Slot) (hk : k ≤ 30) (hn : q = cntC Mc (nI j_sn) k) (hM : WS G ma Mc none H) (hS : va_S (mA ma) s.heap H locs), 30 - k < n → lv_has ls 7 [(6, .int (nI k)), (5, .int (nI q)), (0, .ref (ma 0)), (1, .int (nI j_sn)), (2, .int (nI j_o)), (3, .int (nI j_n))] → W p l e (rmL 3 0 0) s m args below meth c H locs 0 0 Q (F0 m 105 ls []) := by
          intro n
          induction n with
          | zero => intro k q H locs ls hk hn hM hS hm hl; omega
          | succ n ih13 =>
            intro k q H locs ls hk hn hM hS hm hl
            have hn30 := cntC_le Mc (nI j_sn) k
            refine lv_iload hx hb dX9_claim_105 (lv_at hl 0 rfl) ?_
            refine lv_bipush (v := 30) hx hb dX9_claim_107 (by decide) ?_
            refine ln_ge (tgt := 154) (a := k) (b := 30) hx hb dX9_claim_109 (by decide) rfl rfl (by omega) (by omega) (fun c_14t => ?_) (fun c_14f => ?_)
            · refine lv_iload hx hb dX9_claim_154 (lv_at hl 1 rfl) ?_
              subst hQ
              exact rt_mi hx hb hr hlk hM.none hS  (by
          have hk30 : k = 30 := by omega
          subst hk30
          have e1 : clmT M (nI j_sn) (nI j_o) (nI j_n) = 0 := by simp [clmT, c_1f, hix_sn, c_5f, hix_o, hix_n, c_10t, hMc, c_14t]
          have e2 : clmF M (nI j_sn) (nI j_o) (nI j_n) = Mc := by rw [clmF, if_pos e1, hMc, hix_o, hix_n]; rfl
          exact ⟨by rw [clmR, if_pos e1, e2, hn], e2.symm⟩) dX9_claim_156
            · refine lv_iload hx hb dX9_claim_112 (lv_at hl 1 rfl) ?_
              refine lv_aload_n hx hb dX9_claim_114 rfl (lv_at hl 2 rfl) ?_
              refine lv_iload hx hb dX9_claim_115 (lv_at hl 0 rfl) ?_
              refine lv_iconst (v := 3) hx hb dX9_claim_117 (by decide) ?_
              refine lv_idiv hx hb dX9_claim_118 (by decide) ?_
              refine top_i (y := nI (k / 3)) (pk_div (a := k) (d := 3) (by omega) (by decide) (by decide)) ?_
              refine lv_iload hx hb dX9_claim_119 (lv_at hl 0 rfl) ?_
              refine lv_iconst (v := 3) hx hb dX9_claim_121 (by decide) ?_
              refine lv_irem hx hb dX9_claim_122 (by decide) ?_
              refine top_i (y := nI (k % 3)) (pk_rem (a := k) (d := 3) (by omega) (by decide) (by decide)) ?_
              refine cl_pi (x := bI (VL Mc k)) (run_V hC (c9_isLine l G ma Mc none (nI (k / 3)) (nI (k % 3)) hcntc) (As := [.int (nI (k / 3)), .int (nI (k % 3))]) (rest := [.int (nI q)]) rfl rfl ml_X9_156 im_X9_isLine se_X9_isLine ini_X9 cd_X9_isLine ⟨rfl, na_X9_isLine⟩ mB_blind (mr_recv hK hM) (mr_B hK hM) hl.1 (Nat.le_of_ble_eq_true rfl) ⟨Nat.le_of_ble_eq_true rfl, Nat.le_of_ble_eq_true rfl⟩ ⟨Nat.le_refl _, Nat.le_refl _⟩ rfl dX9_claim_123) (congrArg bI (lnB_VL hcntc (by omega))) ?_
              refine lb_eq (tgt := 144) (b := (VL Mc k)) hx hb dX9_claim_126 (by decide) (fun c_15t => ?_) (fun c_15f => ?_)
              · refine lv_iconst (v := 0) hx hb dX9_claim_144 (by decide) ?_
                refine lv_iadd hx hb dX9_claim_145 ?_
                refine top_i (y := nI (q + 0)) (nI_add q 0) ?_
                refine lv_istore (lv' := [(5, .int (nI (q + 0))), (6, .int (nI k)), (0, .ref (ma 0)), (1, .int (nI j_sn)), (2, .int (nI j_o)), (3, .int (nI j_n))]) hx hb dX9_claim_146 hl (by decide) rfl (fun ls hl => ?_)
                refine lv_iinc (v := nI (k + 1)) (lv' := [(6, .int (nI (k + 1))), (5, .int (nI (q + 0))), (0, .ref (ma 0)), (1, .int (nI j_sn)), (2, .int (nI j_o)), (3, .int (nI j_n))]) hx hb dX9_claim_148 hl (k := 1) rfl (nI_inc _) (by decide) rfl (fun ls hl => ?_)
                refine lv_goto (tgt := 105) hx hb dX9_claim_151 (by decide) ?_
                exact ih13 (k + 1) (q + 0) H locs ls (by omega) (by rw [Nat.add_zero, hn]; exact (cntC_f (by simp [c_1f, c_5f, c_10t, c_14f, c_15t])).symm) hM hS (by omega) (lv_sub hl [0, 1, 2, 3, 4, 5] rfl)
              · refine lv_aload_n hx hb dX9_claim_129 rfl (lv_at hl 2 rfl) ?_
                refine ms_get hC hK hM 14 (by decide) fl_X9_38 rfl (v := .ref (ma 14)) rfl (fun q => rfl) dX9_claim_130 ?_
                refine lv_iload hx hb dX9_claim_133 (lv_at hl 0 rfl) ?_
                refine ms_ild hC hK hM 14 (i := k) (show k < 30 from by omega) (by decide) rfl rfl (v := Mc 14 k) rfl dX9_claim_135 ?_
                refine lv_iload_n hx hb dX9_claim_136 rfl (lv_at hl 3 rfl) ?_
                refine lv_icmp_ne (tgt := 144) hx hb dX9_claim_137 (by decide) (fun c_16t => ?_) (fun c_16f => ?_)
                · refine lv_iconst (v := 0) hx hb dX9_claim_144 (by decide) ?_
                  refine lv_iadd hx hb dX9_claim_145 ?_
                  refine top_i (y := nI (q + 0)) (nI_add q 0) ?_
                  refine lv_istore (lv' := [(5, .int (nI (q + 0))), (6, .int (nI k)), (0, .ref (ma 0)), (1, .int (nI j_sn)), (2, .int (nI j_o)), (3, .int (nI j_n))]) hx hb dX9_claim_146 hl (by decide) rfl (fun ls hl => ?_)
                  refine lv_iinc (v := nI (k + 1)) (lv' := [(6, .int (nI (k + 1))), (5, .int (nI (q + 0))), (0, .ref (ma 0)), (1, .int (nI j_sn)), (2, .int (nI j_o)), (3, .int (nI j_n))]) hx hb dX9_claim_148 hl (k := 1) rfl (nI_inc _) (by decide) rfl (fun ls hl => ?_)
                  refine lv_goto (tgt := 105) hx hb dX9_claim_151 (by decide) ?_
                  exact ih13 (k + 1) (q + 0) H locs ls (by omega) (by rw [Nat.add_zero, hn]; exact (cntC_f (by simp [c_1f, c_5f, c_10t, c_14f, c_15f, c_16t])).symm) hM hS (by omega) (lv_sub hl [0, 1, 2, 3, 4, 5] rfl)
                · refine lv_iconst (v := 1) hx hb dX9_claim_140 (by decide) ?_
                  refine lv_goto (tgt := 145) hx hb dX9_claim_141 (by decide) ?_
                  refine lv_iadd hx hb dX9_claim_145 ?_
                  refine top_i (y := nI (q + 1)) (nI_add q 1) ?_
                  refine lv_istore (lv' := [(5, .int (nI (q + 1))), (6, .int (nI k)), (0, .ref (ma 0)), (1, .int (nI j_sn)), (2, .int (nI j_o)), (3, .int (nI j_n))]) hx hb dX9_claim_146 hl (by decide) rfl (fun ls hl => ?_)
                  refine lv_iinc (v := nI (k + 1)) (lv' := [(6, .int (nI (k + 1))), (5, .int (nI (q + 1))), (0, .ref (ma 0)), (1, .int (nI j_sn)), (2, .int (nI j_o)), (3, .int (nI j_n))]) hx hb dX9_claim_148 hl (k := 1) rfl (nI_inc _) (by decide) rfl (fun ls hl => ?_)
                  refine lv_goto (tgt := 105) hx hb dX9_claim_151 (by decide) ?_
                  exact ih13 (k + 1) (q + 1) H locs ls (by omega) (by rw [hn]; exact (cntC_t c_15f c_16f).symm) hM hS (by omega) (lv_sub hl [0, 1, 2, 3, 4, 5] rfl)
        exact loop13 ((30 - 0) + 1) 0 0 H locs ls (by omega) rfl hM hS (by omega) (lv_sub hl [0, 1, 3, 4, 5, 6] rfl)
      · refine lv_iconst (v := 2) hx hb dX9_claim_51 (by decide) ?_
        refine lv_goto (tgt := 56) hx hb dX9_claim_52 (by decide) ?_
        refine mcl_i (run_V hC (c9_holds l G ma M D 2 hI) (As := [.int 2]) (rest := []) rfl rfl ml_X9_140 im_X9_holds se_X9_holds ini_X9 cd_X9_holds ⟨rfl, na_X9_holds⟩ mB_blind (mr_recv hK hM) (mr_B hK hM) hl.1 (Nat.le_of_ble_eq_true rfl) ⟨Nat.le_of_ble_eq_true rfl, Nat.le_of_ble_eq_true rfl⟩ ⟨Nat.le_refl _, Nat.le_refl _⟩ rfl dX9_claim_56) hS (fun _ h => h) (fun r17 M17 H locs hp17 hM hS => ?_)
        obtain ⟨hr17, hm17⟩ := hp17
        rw [hm17] at hM
        refine top_i (y := 0) (hr17.trans (by decide)) ?_
        refine lv_if_ne (tgt := 64) hx hb dX9_claim_59 (by decide) (fun c => absurd c (by decide)) (fun _ => ?_)
        refine lv_iconst (v := 0) hx hb dX9_claim_62 (by decide) ?_
        subst hQ
        exact rt_mi hx hb hr hlk hM.none hS  (by simp [clmR, clmF, clmT, thr, oI_none, oI_some, c_1f, hix_sn, c_5f, hix_o, hix_n, c_10f]) dX9_claim_63
set_option maxHeartbeats 4000000 in
set_option maxRecDepth 100000 in
theorem c9_becomes (l : Launch) (G : gG) (ma : Nat → Nat) (M : MS) (D : mD) (r : Nat) (st : Int32) (hI : mI ma) (hr6 : r < 6) : Met l yX9_becomes (wB yX9_becomes cX9_becomes 3 none) (rmL 0 0 0) (va_Pc [.ref (ma 0), .int (nI r), .int st] (mB G ma M D)) (mQv G ma none (fun M' => M' = becF M r st)) 0 0 (mA ma) := by
  refine st_N (own := RX9) (by decide +kernel) rfl (Nat.le_of_ble_eq_true rfl) ?_
  intro p e s m below meth c ls args Q hQ hC hr hlk hnm hl hP
  obtain ⟨hM, hK⟩ := hP
  have hx := hC.1
  have hb := hC.2.1
  have hl : lv_has ls 3 [(0, .ref (ma 0)), (1, .int (nI r)), (2, .int st)] := hl
  have hS : va_S (mA ma) s.heap s.heap [] := va_S.rf
  obtain ⟨H, locs, hHe, hLe⟩ : ∃ (H : Heap) (locs : List Loc), H = s.heap ∧ locs = [] := ⟨_, _, rfl, rfl⟩
  rw [← hHe] at hM
  have hS : va_S (mA ma) s.heap H locs := by rw [hHe, hLe]; exact va_S.rf
  suffices hgo : W p l e (rmL 0 0 0) s m args below meth c H locs 0 0 Q (F0 m 0 ls []) by
    rw [hHe, hLe] at hgo
    exact hgo
  clear hHe hLe
  refine lv_aload_n hx hb dX9_becomes_0 rfl (lv_at hl 0 rfl) ?_
  refine ms_get hC hK hM 20 (by decide) fl_X9_50 rfl (v := .ref (ma 20)) rfl (fun q => rfl) dX9_becomes_1 ?_
  refine lv_iload_n hx hb dX9_becomes_4 rfl (lv_at hl 1 rfl) ?_
  refine lv_iload_n hx hb dX9_becomes_5 rfl (lv_at hl 2 rfl) ?_
  refine ms_ist hC hK hI hM hS 20 (mA_k (by decide)) (i := r) (show r < 6 from by omega) rfl rfl dX9_becomes_6 (fun H locs hM hS => ?_)
  refine lv_aload_n hx hb dX9_becomes_7 rfl (lv_at hl 0 rfl) ?_
  refine ms_get hC hK hM 23 (by decide) fl_X9_59 rfl (v := .ref (ma 23)) rfl (fun q => rfl) dX9_becomes_8 ?_
  refine lv_iload_n hx hb dX9_becomes_11 rfl (lv_at hl 1 rfl) ?_
  refine lv_iconst (v := (-1)) hx hb dX9_becomes_12 (by decide) ?_
  refine ms_ist hC hK hI hM hS 23 (mA_k (by decide)) (i := r) (show r < 6 from by omega) rfl rfl dX9_becomes_13 (fun H locs hM hS => ?_)
  refine lv_aload_n hx hb dX9_becomes_14 rfl (lv_at hl 0 rfl) ?_
  refine ms_get hC hK hM 24 (by decide) fl_X9_62 rfl (v := .ref (ma 24)) rfl (fun q => rfl) dX9_becomes_15 ?_
  refine lv_iload_n hx hb dX9_becomes_18 rfl (lv_at hl 1 rfl) ?_
  refine lv_iconst (v := (-1)) hx hb dX9_becomes_19 (by decide) ?_
  refine ms_ist hC hK hI hM hS 24 (mA_k (by decide)) (i := r) (show r < 6 from by omega) rfl rfl dX9_becomes_20 (fun H locs hM hS => ?_)
  refine lv_aload_n hx hb dX9_becomes_21 rfl (lv_at hl 0 rfl) ?_
  refine ms_get hC hK hM 22 (by decide) fl_X9_56 rfl (v := .ref (ma 22)) rfl (fun q => rfl) dX9_becomes_22 ?_
  refine lv_iload_n hx hb dX9_becomes_25 rfl (lv_at hl 1 rfl) ?_
  refine lv_iload_n hx hb dX9_becomes_26 rfl (lv_at hl 2 rfl) ?_
  refine lv_iconst (v := 1) hx hb dX9_becomes_27 (by decide) ?_
  refine lv_icmp_eq (tgt := 41) hx hb dX9_becomes_28 (by decide) (fun c_1t => ?_) (fun c_1f => ?_)
  · refine lv_aload_n hx hb dX9_becomes_41 rfl (lv_at hl 0 rfl) ?_
    refine ms_get hC hK hM 22 (by decide) fl_X9_56 rfl (v := .ref (ma 22)) rfl (fun q => rfl) dX9_becomes_42 ?_
    refine lv_iload_n hx hb dX9_becomes_45 rfl (lv_at hl 1 rfl) ?_
    refine ms_ild hC hK hM 22 (i := r) (show r < 6 from by omega) (by decide) rfl rfl (v := M 22 r) rfl dX9_becomes_46 ?_
    refine lv_goto (tgt := 51) hx hb dX9_becomes_47 (by decide) ?_
    refine ms_ist hC hK hI hM hS 22 (mA_k (by decide)) (i := r) (show r < 6 from by omega) rfl rfl dX9_becomes_51 (fun H locs hM hS => ?_)
    refine lv_aload_n hx hb dX9_becomes_52 rfl (lv_at hl 0 rfl) ?_
    refine ms_get hC hK hM 21 (by decide) fl_X9_53 rfl (v := .ref (ma 21)) rfl (fun q => rfl) dX9_becomes_53 ?_
    refine lv_iload_n hx hb dX9_becomes_56 rfl (lv_at hl 1 rfl) ?_
    refine lv_iload_n hx hb dX9_becomes_57 rfl (lv_at hl 2 rfl) ?_
    refine lv_if_ne (tgt := 65) hx hb dX9_becomes_58 (by decide) (fun c_2t => ?_) (fun c_2f => ?_)
    · refine lv_aload_n hx hb dX9_becomes_65 rfl (lv_at hl 0 rfl) ?_
      refine ms_get hC hK hM 21 (by decide) fl_X9_53 rfl (v := .ref (ma 21)) rfl (fun q => rfl) dX9_becomes_66 ?_
      refine lv_iload_n hx hb dX9_becomes_69 rfl (lv_at hl 1 rfl) ?_
      refine ms_ild hC hK hM 21 (i := r) (show r < 6 from by omega) (by decide) rfl rfl (v := M 21 r) rfl dX9_becomes_70 ?_
      refine ms_ist hC hK hI hM hS 21 (mA_k (by decide)) (i := r) (show r < 6 from by omega) rfl rfl dX9_becomes_71 (fun H locs hM hS => ?_)
      subst hQ
      exact rt_mv hx hb hr hlk hM.none hS  (by first | (simp [becF, c_1t, c_2t]; done) | (exfalso; simp_all (decide := true); done)) dX9_becomes_72
    · refine lv_iconst (v := (-1)) hx hb dX9_becomes_61 (by decide) ?_
      refine lv_goto (tgt := 71) hx hb dX9_becomes_62 (by decide) ?_
      refine ms_ist hC hK hI hM hS 21 (mA_k (by decide)) (i := r) (show r < 6 from by omega) rfl rfl dX9_becomes_71 (fun H locs hM hS => ?_)
      subst hQ
      exact rt_mv hx hb hr hlk hM.none hS  (by first | (simp [becF, c_1t, c_2f]; done) | (exfalso; simp_all (decide := true); done)) dX9_becomes_72
  · refine lv_iload_n hx hb dX9_becomes_31 rfl (lv_at hl 2 rfl) ?_
    refine lv_iconst (v := 2) hx hb dX9_becomes_32 (by decide) ?_
    refine lv_icmp_eq (tgt := 41) hx hb dX9_becomes_33 (by decide) (fun c_3t => ?_) (fun c_3f => ?_)
    · refine lv_aload_n hx hb dX9_becomes_41 rfl (lv_at hl 0 rfl) ?_
      refine ms_get hC hK hM 22 (by decide) fl_X9_56 rfl (v := .ref (ma 22)) rfl (fun q => rfl) dX9_becomes_42 ?_
      refine lv_iload_n hx hb dX9_becomes_45 rfl (lv_at hl 1 rfl) ?_
      refine ms_ild hC hK hM 22 (i := r) (show r < 6 from by omega) (by decide) rfl rfl (v := M 22 r) rfl dX9_becomes_46 ?_
      refine lv_goto (tgt := 51) hx hb dX9_becomes_47 (by decide) ?_
      refine ms_ist hC hK hI hM hS 22 (mA_k (by decide)) (i := r) (show r < 6 from by omega) rfl rfl dX9_becomes_51 (fun H locs hM hS => ?_)
      refine lv_aload_n hx hb dX9_becomes_52 rfl (lv_at hl 0 rfl) ?_
      refine ms_get hC hK hM 21 (by decide) fl_X9_53 rfl (v := .ref (ma 21)) rfl (fun q => rfl) dX9_becomes_53 ?_
      refine lv_iload_n hx hb dX9_becomes_56 rfl (lv_at hl 1 rfl) ?_
      refine lv_iload_n hx hb dX9_becomes_57 rfl (lv_at hl 2 rfl) ?_
      refine lv_if_ne (tgt := 65) hx hb dX9_becomes_58 (by decide) (fun c_4t => ?_) (fun c_4f => ?_)
      · refine lv_aload_n hx hb dX9_becomes_65 rfl (lv_at hl 0 rfl) ?_
        refine ms_get hC hK hM 21 (by decide) fl_X9_53 rfl (v := .ref (ma 21)) rfl (fun q => rfl) dX9_becomes_66 ?_
        refine lv_iload_n hx hb dX9_becomes_69 rfl (lv_at hl 1 rfl) ?_
        refine ms_ild hC hK hM 21 (i := r) (show r < 6 from by omega) (by decide) rfl rfl (v := M 21 r) rfl dX9_becomes_70 ?_
        refine ms_ist hC hK hI hM hS 21 (mA_k (by decide)) (i := r) (show r < 6 from by omega) rfl rfl dX9_becomes_71 (fun H locs hM hS => ?_)
        subst hQ
        exact rt_mv hx hb hr hlk hM.none hS  (by first | (simp [becF, c_1f, c_3t, c_4t]; done) | (exfalso; simp_all (decide := true); done)) dX9_becomes_72
      · refine lv_iconst (v := (-1)) hx hb dX9_becomes_61 (by decide) ?_
        refine lv_goto (tgt := 71) hx hb dX9_becomes_62 (by decide) ?_
        refine ms_ist hC hK hI hM hS 21 (mA_k (by decide)) (i := r) (show r < 6 from by omega) rfl rfl dX9_becomes_71 (fun H locs hM hS => ?_)
        subst hQ
        exact rt_mv hx hb hr hlk hM.none hS  (by first | (simp [becF, c_1f, c_3t, c_4f]; done) | (exfalso; simp_all (decide := true); done)) dX9_becomes_72
    · refine lv_iload_n hx hb dX9_becomes_36 rfl (lv_at hl 2 rfl) ?_
      refine lv_iconst (v := 3) hx hb dX9_becomes_37 (by decide) ?_
      refine lv_icmp_ne (tgt := 50) hx hb dX9_becomes_38 (by decide) (fun c_5t => ?_) (fun c_5f => ?_)
      · refine lv_iconst (v := (-1)) hx hb dX9_becomes_50 (by decide) ?_
        refine ms_ist hC hK hI hM hS 22 (mA_k (by decide)) (i := r) (show r < 6 from by omega) rfl rfl dX9_becomes_51 (fun H locs hM hS => ?_)
        refine lv_aload_n hx hb dX9_becomes_52 rfl (lv_at hl 0 rfl) ?_
        refine ms_get hC hK hM 21 (by decide) fl_X9_53 rfl (v := .ref (ma 21)) rfl (fun q => rfl) dX9_becomes_53 ?_
        refine lv_iload_n hx hb dX9_becomes_56 rfl (lv_at hl 1 rfl) ?_
        refine lv_iload_n hx hb dX9_becomes_57 rfl (lv_at hl 2 rfl) ?_
        refine lv_if_ne (tgt := 65) hx hb dX9_becomes_58 (by decide) (fun c_6t => ?_) (fun c_6f => ?_)
        · refine lv_aload_n hx hb dX9_becomes_65 rfl (lv_at hl 0 rfl) ?_
          refine ms_get hC hK hM 21 (by decide) fl_X9_53 rfl (v := .ref (ma 21)) rfl (fun q => rfl) dX9_becomes_66 ?_
          refine lv_iload_n hx hb dX9_becomes_69 rfl (lv_at hl 1 rfl) ?_
          refine ms_ild hC hK hM 21 (i := r) (show r < 6 from by omega) (by decide) rfl rfl (v := M 21 r) rfl dX9_becomes_70 ?_
          refine ms_ist hC hK hI hM hS 21 (mA_k (by decide)) (i := r) (show r < 6 from by omega) rfl rfl dX9_becomes_71 (fun H locs hM hS => ?_)
          subst hQ
          exact rt_mv hx hb hr hlk hM.none hS  (by first | (simp [becF, c_1f, c_3f, c_5t, c_6t]; done) | (exfalso; simp_all (decide := true); done)) dX9_becomes_72
        · refine lv_iconst (v := (-1)) hx hb dX9_becomes_61 (by decide) ?_
          refine lv_goto (tgt := 71) hx hb dX9_becomes_62 (by decide) ?_
          refine ms_ist hC hK hI hM hS 21 (mA_k (by decide)) (i := r) (show r < 6 from by omega) rfl rfl dX9_becomes_71 (fun H locs hM hS => ?_)
          subst hQ
          exact rt_mv hx hb hr hlk hM.none hS  (by first | (simp [becF, c_1f, c_3f, c_5t, c_6f]; done) | (exfalso; simp_all (decide := true); done)) dX9_becomes_72
      · refine lv_aload_n hx hb dX9_becomes_41 rfl (lv_at hl 0 rfl) ?_
        refine ms_get hC hK hM 22 (by decide) fl_X9_56 rfl (v := .ref (ma 22)) rfl (fun q => rfl) dX9_becomes_42 ?_
        refine lv_iload_n hx hb dX9_becomes_45 rfl (lv_at hl 1 rfl) ?_
        refine ms_ild hC hK hM 22 (i := r) (show r < 6 from by omega) (by decide) rfl rfl (v := M 22 r) rfl dX9_becomes_46 ?_
        refine lv_goto (tgt := 51) hx hb dX9_becomes_47 (by decide) ?_
        refine ms_ist hC hK hI hM hS 22 (mA_k (by decide)) (i := r) (show r < 6 from by omega) rfl rfl dX9_becomes_51 (fun H locs hM hS => ?_)
        refine lv_aload_n hx hb dX9_becomes_52 rfl (lv_at hl 0 rfl) ?_
        refine ms_get hC hK hM 21 (by decide) fl_X9_53 rfl (v := .ref (ma 21)) rfl (fun q => rfl) dX9_becomes_53 ?_
        refine lv_iload_n hx hb dX9_becomes_56 rfl (lv_at hl 1 rfl) ?_
        refine lv_iload_n hx hb dX9_becomes_57 rfl (lv_at hl 2 rfl) ?_
        refine lv_if_ne (tgt := 65) hx hb dX9_becomes_58 (by decide) (fun c_7t => ?_) (fun c_7f => ?_)
        · refine lv_aload_n hx hb dX9_becomes_65 rfl (lv_at hl 0 rfl) ?_
          refine ms_get hC hK hM 21 (by decide) fl_X9_53 rfl (v := .ref (ma 21)) rfl (fun q => rfl) dX9_becomes_66 ?_
          refine lv_iload_n hx hb dX9_becomes_69 rfl (lv_at hl 1 rfl) ?_
          refine ms_ild hC hK hM 21 (i := r) (show r < 6 from by omega) (by decide) rfl rfl (v := M 21 r) rfl dX9_becomes_70 ?_
          refine ms_ist hC hK hI hM hS 21 (mA_k (by decide)) (i := r) (show r < 6 from by omega) rfl rfl dX9_becomes_71 (fun H locs hM hS => ?_)
          subst hQ
          exact rt_mv hx hb hr hlk hM.none hS  (by first | (simp [becF, c_1f, c_3f, c_5f, c_7t]; done) | (exfalso; simp_all (decide := true); done)) dX9_becomes_72
        · refine lv_iconst (v := (-1)) hx hb dX9_becomes_61 (by decide) ?_
          refine lv_goto (tgt := 71) hx hb dX9_becomes_62 (by decide) ?_
          refine ms_ist hC hK hI hM hS 21 (mA_k (by decide)) (i := r) (show r < 6 from by omega) rfl rfl dX9_becomes_71 (fun H locs hM hS => ?_)
          subst hQ
          exact rt_mv hx hb hr hlk hM.none hS  (by first | (simp [becF, c_1f, c_3f, c_5f, c_7f]; done) | (exfalso; simp_all (decide := true); done)) dX9_becomes_72
set_option maxHeartbeats 4000000 in
set_option maxRecDepth 100000 in
theorem c9_giveUp (l : Launch) (G : gG) (ma : Nat → Nat) (M : MS) (D : mD) (o : Int32) (n : Int32) (hI : mI ma) (hcnt : CNT M) : Met l yX9_giveUp (wB yX9_giveUp cX9_giveUp 7 (some .int)) (rmL 2 0 0) (va_Pc [.ref (ma 0), .int o, .int n] (mB G ma M D)) (mQi G ma none (fun r M' => r = gvR M o n ∧ M' = gvF M o n)) 0 0 (mA ma) := by
  refine st_N (own := RX9) (by decide +kernel) rfl (Nat.le_of_ble_eq_true rfl) ?_
  intro p e s m below meth c ls args Q hQ hC hr hlk hnm hl hP
  obtain ⟨hM, hK⟩ := hP
  have hx := hC.1
  have hb := hC.2.1
  have hl : lv_has ls 7 [(0, .ref (ma 0)), (1, .int o), (2, .int n)] := hl
  have hS : va_S (mA ma) s.heap s.heap [] := va_S.rf
  obtain ⟨H, locs, hHe, hLe⟩ : ∃ (H : Heap) (locs : List Loc), H = s.heap ∧ locs = [] := ⟨_, _, rfl, rfl⟩
  rw [← hHe] at hM
  have hS : va_S (mA ma) s.heap H locs := by rw [hHe, hLe]; exact va_S.rf
  suffices hgo : W p l e (rmL 2 0 0) s m args below meth c H locs 0 0 Q (F0 m 0 ls []) by
    rw [hHe, hLe] at hgo
    exact hgo
  clear hHe hLe
  have h6 := hcnt.R6
  have h3 := hcnt.S3
  have h16 := hcnt.T16
  have h10 := hcnt.O10
  refine lv_aload_n hx hb dX9_giveUp_0 rfl (lv_at hl 0 rfl) ?_
  refine lv_iload_n hx hb dX9_giveUp_1 rfl (lv_at hl 1 rfl) ?_
  refine lv_iload_n hx hb dX9_giveUp_2 rfl (lv_at hl 2 rfl) ?_
  refine cl_p (run_V hC (c9_isLine l G ma M D o n hcnt) (As := [.int o, .int n]) (rest := []) rfl rfl ml_X9_156 im_X9_isLine se_X9_isLine ini_X9 cd_X9_isLine ⟨rfl, na_X9_isLine⟩ mB_blind (mr_recv hK hM) (mr_B hK hM) hl.1 (Nat.le_of_ble_eq_true rfl) ⟨Nat.le_of_ble_eq_true rfl, Nat.le_of_ble_eq_true rfl⟩ ⟨Nat.le_refl _, Nat.le_refl _⟩ rfl dX9_giveUp_3) ?_
  refine lv_istore_n (lv' := [(3, .int (bI (lnB M o n))), (0, .ref (ma 0)), (1, .int o), (2, .int n)]) hx hb dX9_giveUp_6 rfl hl (by decide) rfl (fun ls hl => ?_)
  refine lv_iload_n hx hb dX9_giveUp_7 rfl (lv_at hl 0 rfl) ?_
  refine lb_eq (tgt := 19) (b := (lnB M o n)) hx hb dX9_giveUp_8 (by decide) (fun c_1t => ?_) (fun c_1f => ?_)
  · refine lv_iconst (v := 0) hx hb dX9_giveUp_19 (by decide) ?_
    refine lv_istore (lv' := [(4, .int 0), (3, .int (bI (lnB M o n))), (0, .ref (ma 0)), (1, .int o), (2, .int n)]) hx hb dX9_giveUp_20 hl (by decide) rfl (fun ls hl => ?_)
    refine lv_aload_n hx hb dX9_giveUp_22 rfl (lv_at hl 2 rfl) ?_
    refine lv_iload_n hx hb dX9_giveUp_23 rfl (lv_at hl 1 rfl) ?_
    refine lb_ne (tgt := 31) (b := (lnB M o n)) hx hb dX9_giveUp_24 (by decide) (fun c => by rw [c_1t] at c; cases c) (fun _ => ?_)
    refine lv_iconst (v := 1) hx hb dX9_giveUp_27 (by decide) ?_
    refine lv_goto (tgt := 47) hx hb dX9_giveUp_28 (by decide) ?_
    refine mcl_i (run_V hC (c9_holds l G ma M D 1 hI) (As := [.int 1]) (rest := []) rfl rfl ml_X9_140 im_X9_holds se_X9_holds ini_X9 cd_X9_holds ⟨rfl, na_X9_holds⟩ mB_blind (mr_recv hK hM) (mr_B hK hM) hl.1 (Nat.le_of_ble_eq_true rfl) ⟨Nat.le_of_ble_eq_true rfl, Nat.le_of_ble_eq_true rfl⟩ ⟨Nat.le_refl _, Nat.le_refl _⟩ rfl dX9_giveUp_47) hS (fun _ h => h) (fun r3 M3 H locs hp3 hM hS => ?_)
    obtain ⟨hr3, hm3⟩ := hp3
    rw [hm3] at hM
    refine top_i (y := 0) (hr3.trans (by decide)) ?_
    refine lv_if_ne (tgt := 55) hx hb dX9_giveUp_50 (by decide) (fun c => absurd c (by decide)) (fun _ => ?_)
    refine lv_iconst (v := 0) hx hb dX9_giveUp_53 (by decide) ?_
    subst hQ
    exact rt_mi hx hb hr hlk hM.none hS  (by simp [gvR, gvF, gvT, thr, oI_none, oI_some, c_1t]) dX9_giveUp_54
  · obtain ⟨j_o, j_n, hlt_o, hlt_n, rfl, rfl⟩ := lnB_of hcnt c_1f
    have hL3 := hcnt.L3 (o := j_o) (by omega)
    have hix_o := ix_nI (n := j_o) (by omega)
    have hix_n := ix_nI (n := j_n) (by omega)
    refine lv_iconst (v := 3) hx hb dX9_giveUp_11 (by decide) ?_
    refine lv_iload_n hx hb dX9_giveUp_12 rfl (lv_at hl 2 rfl) ?_
    refine lv_imul hx hb dX9_giveUp_13 ?_
    refine top_i (y := nI (3 * j_o)) (pk_mul 3 j_o) ?_
    refine lv_iload_n hx hb dX9_giveUp_14 rfl (lv_at hl 3 rfl) ?_
    refine lv_iadd hx hb dX9_giveUp_15 ?_
    refine top_i (y := nI ((3 * j_o) + j_n)) (nI_add (3 * j_o) j_n) ?_
    refine lv_goto (tgt := 20) hx hb dX9_giveUp_16 (by decide) ?_
    refine lv_istore (lv' := [(4, .int (nI ((3 * j_o) + j_n))), (3, .int (bI (lnB M (nI j_o) (nI j_n)))), (0, .ref (ma 0)), (1, .int (nI j_o)), (2, .int (nI j_n))]) hx hb dX9_giveUp_20 hl (by decide) rfl (fun ls hl => ?_)
    refine lv_aload_n hx hb dX9_giveUp_22 rfl (lv_at hl 2 rfl) ?_
    refine lv_iload_n hx hb dX9_giveUp_23 rfl (lv_at hl 1 rfl) ?_
    refine lb_ne (tgt := 31) (b := (lnB M (nI j_o) (nI j_n))) hx hb dX9_giveUp_24 (by decide) (fun _ => ?_) (fun c => by rw [c_1f] at c; cases c)
    refine lv_aload_n hx hb dX9_giveUp_31 rfl (lv_at hl 2 rfl) ?_
    refine ms_get hC hK hM 14 (by decide) fl_X9_38 rfl (v := .ref (ma 14)) rfl (fun q => rfl) dX9_giveUp_32 ?_
    refine lv_iload hx hb dX9_giveUp_35 (lv_at hl 0 rfl) ?_
    refine ms_ild hC hK hM 14 (i := ((3 * j_o) + j_n)) (show (3 * j_o) + j_n < 30 from by omega) (by decide) rfl rfl (v := M 14 ((3 * j_o) + j_n)) rfl dX9_giveUp_37 ?_
    refine lv_iconst (v := (-1)) hx hb dX9_giveUp_38 (by decide) ?_
    refine lv_icmp_ne (tgt := 46) hx hb dX9_giveUp_39 (by decide) (fun c_6t => ?_) (fun c_6f => ?_)
    · refine lv_iconst (v := 0) hx hb dX9_giveUp_46 (by decide) ?_
      refine mcl_i (run_V hC (c9_holds l G ma M D 0 hI) (As := [.int 0]) (rest := []) rfl rfl ml_X9_140 im_X9_holds se_X9_holds ini_X9 cd_X9_holds ⟨rfl, na_X9_holds⟩ mB_blind (mr_recv hK hM) (mr_B hK hM) hl.1 (Nat.le_of_ble_eq_true rfl) ⟨Nat.le_of_ble_eq_true rfl, Nat.le_of_ble_eq_true rfl⟩ ⟨Nat.le_refl _, Nat.le_refl _⟩ rfl dX9_giveUp_47) hS (fun _ h => h) (fun r7 M7 H locs hp7 hM hS => ?_)
      obtain ⟨hr7, hm7⟩ := hp7
      rw [hm7] at hM
      refine top_i (y := 1) (hr7.trans (by decide)) ?_
      refine lv_if_ne (tgt := 55) hx hb dX9_giveUp_50 (by decide) (fun _ => ?_) (fun c => absurd c (by decide))
      refine lv_aload_n hx hb dX9_giveUp_55 rfl (lv_at hl 2 rfl) ?_
      refine ms_get hC hK hM 14 (by decide) fl_X9_38 rfl (v := .ref (ma 14)) rfl (fun q => rfl) dX9_giveUp_56 ?_
      refine lv_iload hx hb dX9_giveUp_59 (lv_at hl 0 rfl) ?_
      refine ms_ild hC hK hM 14 (i := ((3 * j_o) + j_n)) (show (3 * j_o) + j_n < 30 from by omega) (by decide) rfl rfl (v := M 14 ((3 * j_o) + j_n)) rfl dX9_giveUp_61 ?_
      refine lv_istore (lv' := [(5, .int (M 14 ((3 * j_o) + j_n))), (4, .int (nI ((3 * j_o) + j_n))), (3, .int (bI (lnB M (nI j_o) (nI j_n)))), (0, .ref (ma 0)), (1, .int (nI j_o)), (2, .int (nI j_n))]) hx hb dX9_giveUp_62 hl (by decide) rfl (fun ls hl => ?_)
      refine lv_aload_n hx hb dX9_giveUp_64 rfl (lv_at hl 3 rfl) ?_
      refine ms_get hC hK hM 14 (by decide) fl_X9_38 rfl (v := .ref (ma 14)) rfl (fun q => rfl) dX9_giveUp_65 ?_
      refine lv_iload hx hb dX9_giveUp_68 (lv_at hl 1 rfl) ?_
      refine lv_iconst (v := (-1)) hx hb dX9_giveUp_70 (by decide) ?_
      refine ms_ist hC hK hI hM hS 14 (mA_k (by decide)) (i := ((3 * j_o) + j_n)) (show (3 * j_o) + j_n < 30 from by omega) rfl rfl dX9_giveUp_71 (fun H locs hM hS => ?_)
      refine lv_iconst (v := 0) hx hb dX9_giveUp_72 (by decide) ?_
      refine lv_istore (lv' := [(6, .int 0), (5, .int (M 14 ((3 * j_o) + j_n))), (4, .int (nI ((3 * j_o) + j_n))), (3, .int (bI (lnB M (nI j_o) (nI j_n)))), (0, .ref (ma 0)), (1, .int (nI j_o)), (2, .int (nI j_n))]) hx hb dX9_giveUp_73 hl (by decide) rfl (fun ls hl => ?_)
      obtain ⟨M9, hM9⟩ : ∃ z, z = (mset (mset M 0 0 0) 14 ((3 * j_o) + j_n) (-1)) := ⟨_, rfl⟩
      rw [← hM9] at hM
      have loop9 : ∀ (n : Nat) (r : Nat) (H : Heap) (locs : List Loc) (ls : Array Slot) (hrn : r ≤ nR M) (hM : WS G ma (gvGo (3 * j_o + j_n) r M9) none H) (hS : va_S (mA ma) s.heap H locs), nR M - r < n → lv_has ls 7 [(6, .int (nI r)), (5, .int (M 14 ((3 * j_o) + j_n))), (4, .int (nI ((3 * j_o) + j_n))), (0, .ref (ma 0)), (1, .int (nI j_o)), (2, .int (nI j_n))] → W p l e (rmL 2 0 0) s m args below meth c H locs 0 0 Q (F0 m 75 ls []) := by
        intro n
        induction n with
        | zero => intro r H locs ls hrn hM hS hm hl; omega
        | succ n ih9 =>
          intro r H locs ls hrn hM hS hm hl
          refine lv_iload hx hb dX9_giveUp_75 (lv_at hl 0 rfl) ?_
          refine lv_aload_n hx hb dX9_giveUp_77 rfl (lv_at hl 3 rfl) ?_
          refine ms_get hC hK hM 17 (by decide) fl_X9_103 rfl (v := .int (nI (nR M))) (congrArg Value.int (show (gvGo (3 * j_o + j_n) r M9) 17 0 = (nI (nR M)) from (by rw [gvGo_row (by decide), hM9]; exact hcnt.R))) (fun q => rfl) dX9_giveUp_78 ?_
          refine ln_ge (tgt := 124) (a := r) (b := (nR M)) hx hb dX9_giveUp_81 (by decide) rfl rfl (by omega) (by omega) (fun c_10t => ?_) (fun c_10f => ?_)
          · refine lv_iload hx hb dX9_giveUp_124 (lv_at hl 1 rfl) ?_
            subst hQ
            exact rt_mi hx hb hr hlk hM.none hS  (by rw [show r = nR M by omega]; simp [gvR, gvF, gvT, thr, c_1f, hix_o, hix_n, c_6t, hM9, c_10t]) dX9_giveUp_126
          · refine lv_aload_n hx hb dX9_giveUp_84 rfl (lv_at hl 3 rfl) ?_
            refine ms_get hC hK hM 22 (by decide) fl_X9_56 rfl (v := .ref (ma 22)) rfl (fun q => rfl) dX9_giveUp_85 ?_
            refine lv_iload hx hb dX9_giveUp_88 (lv_at hl 0 rfl) ?_
            refine ms_ild hC hK hM 22 (i := r) (show r < 6 from by omega) (by decide) rfl rfl (v := (gvGo (3 * j_o + j_n) r M9) 22 r) rfl dX9_giveUp_90 ?_
            refine lv_iload hx hb dX9_giveUp_91 (lv_at hl 2 rfl) ?_
            refine lv_icmp_ne (tgt := 118) hx hb dX9_giveUp_93 (by decide) (fun c_11t => ?_) (fun c_11f => ?_)
            · refine lv_iinc (v := nI (r + 1)) (lv' := [(6, .int (nI (r + 1))), (5, .int (M 14 ((3 * j_o) + j_n))), (4, .int (nI ((3 * j_o) + j_n))), (0, .ref (ma 0)), (1, .int (nI j_o)), (2, .int (nI j_n))]) hx hb dX9_giveUp_118 hl (k := 0) rfl (nI_inc _) (by decide) rfl (fun ls hl => ?_)
              refine lv_goto (tgt := 75) hx hb dX9_giveUp_121 (by decide) ?_
              exact ih9 (r + 1) H locs ls (by omega) (by rw [gvGo_f c_11t]; exact hM) hS (by omega) (lv_sub hl [0, 1, 2, 3, 4, 5] rfl)
            · refine lv_aload_n hx hb dX9_giveUp_96 rfl (lv_at hl 3 rfl) ?_
              refine lv_iload hx hb dX9_giveUp_97 (lv_at hl 0 rfl) ?_
              refine lv_aload_n hx hb dX9_giveUp_99 rfl (lv_at hl 3 rfl) ?_
              refine ms_get hC hK hM 20 (by decide) fl_X9_50 rfl (v := .ref (ma 20)) rfl (fun q => rfl) dX9_giveUp_100 ?_
              refine lv_iload hx hb dX9_giveUp_103 (lv_at hl 0 rfl) ?_
              refine ms_ild hC hK hM 20 (i := r) (show r < 6 from by omega) (by decide) rfl rfl (v := (gvGo (3 * j_o + j_n) r M9) 20 r) rfl dX9_giveUp_105 ?_
              refine lv_iconst (v := 1) hx hb dX9_giveUp_106 (by decide) ?_
              refine lv_icmp_ne (tgt := 114) hx hb dX9_giveUp_107 (by decide) (fun c_12t => ?_) (fun c_12f => ?_)
              · refine lv_iconst (v := 4) hx hb dX9_giveUp_114 (by decide) ?_
                refine mcl_v (run_V hC (c9_becomes l G ma (gvGo (3 * j_o + j_n) r M9) none r 4 hI (by omega)) (As := [.int (nI r), .int 4]) (rest := []) rfl rfl ml_X9_162 im_X9_becomes se_X9_becomes ini_X9 cd_X9_becomes ⟨rfl, na_X9_becomes⟩ mB_blind (mr_recv hK hM) (mr_B hK hM) hl.1 (Nat.le_of_ble_eq_true rfl) ⟨Nat.le_of_ble_eq_true rfl, Nat.le_of_ble_eq_true rfl⟩ ⟨Nat.le_refl _, Nat.le_refl _⟩ rfl dX9_giveUp_115) hS (fun _ h => h) (fun M13 H locs hp13 hM hS => ?_)
                rw [hp13] at hM
                refine lv_iinc (v := nI (r + 1)) (lv' := [(6, .int (nI (r + 1))), (5, .int (M 14 ((3 * j_o) + j_n))), (4, .int (nI ((3 * j_o) + j_n))), (0, .ref (ma 0)), (1, .int (nI j_o)), (2, .int (nI j_n))]) hx hb dX9_giveUp_118 hl (k := 0) rfl (nI_inc _) (by decide) rfl (fun ls hl => ?_)
                refine lv_goto (tgt := 75) hx hb dX9_giveUp_121 (by decide) ?_
                exact ih9 (r + 1) H locs ls (by omega) (by rw [gvGo_t c_11f, if_neg c_12t]; exact hM) hS (by omega) (lv_sub hl [0, 1, 2, 3, 4, 5] rfl)
              · refine lv_iconst (v := 0) hx hb dX9_giveUp_110 (by decide) ?_
                refine lv_goto (tgt := 115) hx hb dX9_giveUp_111 (by decide) ?_
                refine mcl_v (run_V hC (c9_becomes l G ma (gvGo (3 * j_o + j_n) r M9) none r 0 hI (by omega)) (As := [.int (nI r), .int 0]) (rest := []) rfl rfl ml_X9_162 im_X9_becomes se_X9_becomes ini_X9 cd_X9_becomes ⟨rfl, na_X9_becomes⟩ mB_blind (mr_recv hK hM) (mr_B hK hM) hl.1 (Nat.le_of_ble_eq_true rfl) ⟨Nat.le_of_ble_eq_true rfl, Nat.le_of_ble_eq_true rfl⟩ ⟨Nat.le_refl _, Nat.le_refl _⟩ rfl dX9_giveUp_115) hS (fun _ h => h) (fun M14 H locs hp14 hM hS => ?_)
                rw [hp14] at hM
                refine lv_iinc (v := nI (r + 1)) (lv' := [(6, .int (nI (r + 1))), (5, .int (M 14 ((3 * j_o) + j_n))), (4, .int (nI ((3 * j_o) + j_n))), (0, .ref (ma 0)), (1, .int (nI j_o)), (2, .int (nI j_n))]) hx hb dX9_giveUp_118 hl (k := 0) rfl (nI_inc _) (by decide) rfl (fun ls hl => ?_)
                refine lv_goto (tgt := 75) hx hb dX9_giveUp_121 (by decide) ?_
                exact ih9 (r + 1) H locs ls (by omega) (by rw [gvGo_t c_11f, if_pos c_12f]; exact hM) hS (by omega) (lv_sub hl [0, 1, 2, 3, 4, 5] rfl)
      exact loop9 ((nR M - 0) + 1) 0 H locs ls (by omega) hM hS (by omega) (lv_sub hl [0, 1, 2, 4, 5, 6] rfl)
    · refine lv_iconst (v := 2) hx hb dX9_giveUp_42 (by decide) ?_
      refine lv_goto (tgt := 47) hx hb dX9_giveUp_43 (by decide) ?_
      refine mcl_i (run_V hC (c9_holds l G ma M D 2 hI) (As := [.int 2]) (rest := []) rfl rfl ml_X9_140 im_X9_holds se_X9_holds ini_X9 cd_X9_holds ⟨rfl, na_X9_holds⟩ mB_blind (mr_recv hK hM) (mr_B hK hM) hl.1 (Nat.le_of_ble_eq_true rfl) ⟨Nat.le_of_ble_eq_true rfl, Nat.le_of_ble_eq_true rfl⟩ ⟨Nat.le_refl _, Nat.le_refl _⟩ rfl dX9_giveUp_47) hS (fun _ h => h) (fun r15 M15 H locs hp15 hM hS => ?_)
      obtain ⟨hr15, hm15⟩ := hp15
      rw [hm15] at hM
      refine top_i (y := 0) (hr15.trans (by decide)) ?_
      refine lv_if_ne (tgt := 55) hx hb dX9_giveUp_50 (by decide) (fun c => absurd c (by decide)) (fun _ => ?_)
      refine lv_iconst (v := 0) hx hb dX9_giveUp_53 (by decide) ?_
      subst hQ
      exact rt_mi hx hb hr hlk hM.none hS  (by simp [gvR, gvF, gvT, thr, oI_none, oI_some, c_1f, hix_o, hix_n, c_6f]) dX9_giveUp_54
set_option maxHeartbeats 4000000 in
set_option maxRecDepth 100000 in
theorem c9_left (l : Launch) (G : gG) (ma : Nat → Nat) (M : MS) (D : mD) (o : Int32) (n : Int32) (hI : mI ma) (hcnt : CNT M) : Met l yX9_left (wB yX9_left cX9_left 3 (some .int)) (rmL 2 0 0) (va_Pc [.ref (ma 0), .int o, .int n] (mB G ma M D)) (mQi G ma none (fun r M' => r = leftR M o n ∧ M' = thr M (lnT M o n))) 0 0 (mA ma) := by
  refine st_N (own := RX9) (by decide +kernel) rfl (Nat.le_of_ble_eq_true rfl) ?_
  intro p e s m below meth c ls args Q hQ hC hr hlk hnm hl hP
  obtain ⟨hM, hK⟩ := hP
  have hx := hC.1
  have hb := hC.2.1
  have hl : lv_has ls 3 [(0, .ref (ma 0)), (1, .int o), (2, .int n)] := hl
  have hS : va_S (mA ma) s.heap s.heap [] := va_S.rf
  obtain ⟨H, locs, hHe, hLe⟩ : ∃ (H : Heap) (locs : List Loc), H = s.heap ∧ locs = [] := ⟨_, _, rfl, rfl⟩
  rw [← hHe] at hM
  have hS : va_S (mA ma) s.heap H locs := by rw [hHe, hLe]; exact va_S.rf
  suffices hgo : W p l e (rmL 2 0 0) s m args below meth c H locs 0 0 Q (F0 m 0 ls []) by
    rw [hHe, hLe] at hgo
    exact hgo
  clear hHe hLe
  have h6 := hcnt.R6
  have h3 := hcnt.S3
  have h16 := hcnt.T16
  have h10 := hcnt.O10
  refine lv_aload_n hx hb dX9_left_0 rfl (lv_at hl 0 rfl) ?_
  refine lv_aload_n hx hb dX9_left_1 rfl (lv_at hl 0 rfl) ?_
  refine lv_iload_n hx hb dX9_left_2 rfl (lv_at hl 1 rfl) ?_
  refine lv_iload_n hx hb dX9_left_3 rfl (lv_at hl 2 rfl) ?_
  refine cl_p (run_V hC (c9_isLine l G ma M D o n hcnt) (As := [.int o, .int n]) (rest := [.ref (ma 0)]) rfl rfl ml_X9_156 im_X9_isLine se_X9_isLine ini_X9 cd_X9_isLine ⟨rfl, na_X9_isLine⟩ mB_blind (mr_recv hK hM) (mr_B hK hM) hl.1 (Nat.le_of_ble_eq_true rfl) ⟨Nat.le_of_ble_eq_true rfl, Nat.le_of_ble_eq_true rfl⟩ ⟨Nat.le_refl _, Nat.le_refl _⟩ rfl dX9_left_4) ?_
  refine lb_eq (tgt := 14) (b := (lnB M o n)) hx hb dX9_left_7 (by decide) (fun c_1t => ?_) (fun c_1f => ?_)
  · refine lv_iconst (v := 1) hx hb dX9_left_14 (by decide) ?_
    refine mcl_i (run_V hC (c9_holds l G ma M D 1 hI) (As := [.int 1]) (rest := []) rfl rfl ml_X9_140 im_X9_holds se_X9_holds ini_X9 cd_X9_holds ⟨rfl, na_X9_holds⟩ mB_blind (mr_recv hK hM) (mr_B hK hM) hl.1 (Nat.le_of_ble_eq_true rfl) ⟨Nat.le_of_ble_eq_true rfl, Nat.le_of_ble_eq_true rfl⟩ ⟨Nat.le_refl _, Nat.le_refl _⟩ rfl dX9_left_15) hS (fun _ h => h) (fun r2 M2 H locs hp2 hM hS => ?_)
    obtain ⟨hr2, hm2⟩ := hp2
    rw [hm2] at hM
    refine top_i (y := 0) (hr2.trans (by decide)) ?_
    refine lv_if_eq (tgt := 34) hx hb dX9_left_18 (by decide) (fun _ => ?_) (fun c => absurd c (by decide))
    refine lv_iconst (v := 0) hx hb dX9_left_34 (by decide) ?_
    subst hQ
    exact rt_mi hx hb hr hlk hM.none hS  (by simp [leftR, lnT, thr, oI_none, oI_some, c_1t]) dX9_left_35
  · obtain ⟨j_o, j_n, hlt_o, hlt_n, rfl, rfl⟩ := lnB_of hcnt c_1f
    have hL3 := hcnt.L3 (o := j_o) (by omega)
    have hix_o := ix_nI (n := j_o) (by omega)
    have hix_n := ix_nI (n := j_n) (by omega)
    refine lv_iconst (v := 0) hx hb dX9_left_10 (by decide) ?_
    refine lv_goto (tgt := 15) hx hb dX9_left_11 (by decide) ?_
    refine mcl_i (run_V hC (c9_holds l G ma M D 0 hI) (As := [.int 0]) (rest := []) rfl rfl ml_X9_140 im_X9_holds se_X9_holds ini_X9 cd_X9_holds ⟨rfl, na_X9_holds⟩ mB_blind (mr_recv hK hM) (mr_B hK hM) hl.1 (Nat.le_of_ble_eq_true rfl) ⟨Nat.le_of_ble_eq_true rfl, Nat.le_of_ble_eq_true rfl⟩ ⟨Nat.le_refl _, Nat.le_refl _⟩ rfl dX9_left_15) hS (fun _ h => h) (fun r4 M4 H locs hp4 hM hS => ?_)
    obtain ⟨hr4, hm4⟩ := hp4
    rw [hm4] at hM
    refine top_i (y := 1) (hr4.trans (by decide)) ?_
    refine lv_if_eq (tgt := 34) hx hb dX9_left_18 (by decide) (fun c => absurd c (by decide)) (fun _ => ?_)
    refine lv_aload_n hx hb dX9_left_21 rfl (lv_at hl 0 rfl) ?_
    refine ms_get hC hK hM 13 (by decide) fl_X9_35 rfl (v := .ref (ma 13)) rfl (fun q => rfl) dX9_left_22 ?_
    refine lv_iconst (v := 3) hx hb dX9_left_25 (by decide) ?_
    refine lv_iload_n hx hb dX9_left_26 rfl (lv_at hl 1 rfl) ?_
    refine lv_imul hx hb dX9_left_27 ?_
    refine top_i (y := nI (3 * j_o)) (pk_mul 3 j_o) ?_
    refine lv_iload_n hx hb dX9_left_28 rfl (lv_at hl 2 rfl) ?_
    refine lv_iadd hx hb dX9_left_29 ?_
    refine top_i (y := nI ((3 * j_o) + j_n)) (nI_add (3 * j_o) j_n) ?_
    refine ms_ild hC hK hM 13 (i := ((3 * j_o) + j_n)) (show (3 * j_o) + j_n < 30 from by omega) (by decide) rfl rfl (v := M 13 ((3 * j_o) + j_n)) rfl dX9_left_30 ?_
    refine lv_goto (tgt := 35) hx hb dX9_left_31 (by decide) ?_
    subst hQ
    exact rt_mi hx hb hr hlk hM.none hS  (by simp [leftR, lnT, thr, oI_none, oI_some, c_1f, hix_o, hix_n]) dX9_left_35
set_option maxHeartbeats 4000000 in
set_option maxRecDepth 100000 in
theorem c9_claimant (l : Launch) (G : gG) (ma : Nat → Nat) (M : MS) (D : mD) (o : Int32) (n : Int32) (hI : mI ma) (hcnt : CNT M) : Met l yX9_claimant (wB yX9_claimant cX9_claimant 3 (some .int)) (rmL 2 0 0) (va_Pc [.ref (ma 0), .int o, .int n] (mB G ma M D)) (mQi G ma none (fun r M' => r = clnR M o n ∧ M' = thr M (lnT M o n))) 0 0 (mA ma) := by
  refine st_N (own := RX9) (by decide +kernel) rfl (Nat.le_of_ble_eq_true rfl) ?_
  intro p e s m below meth c ls args Q hQ hC hr hlk hnm hl hP
  obtain ⟨hM, hK⟩ := hP
  have hx := hC.1
  have hb := hC.2.1
  have hl : lv_has ls 3 [(0, .ref (ma 0)), (1, .int o), (2, .int n)] := hl
  have hS : va_S (mA ma) s.heap s.heap [] := va_S.rf
  obtain ⟨H, locs, hHe, hLe⟩ : ∃ (H : Heap) (locs : List Loc), H = s.heap ∧ locs = [] := ⟨_, _, rfl, rfl⟩
  rw [← hHe] at hM
  have hS : va_S (mA ma) s.heap H locs := by rw [hHe, hLe]; exact va_S.rf
  suffices hgo : W p l e (rmL 2 0 0) s m args below meth c H locs 0 0 Q (F0 m 0 ls []) by
    rw [hHe, hLe] at hgo
    exact hgo
  clear hHe hLe
  have h6 := hcnt.R6
  have h3 := hcnt.S3
  have h16 := hcnt.T16
  have h10 := hcnt.O10
  refine lv_aload_n hx hb dX9_claimant_0 rfl (lv_at hl 0 rfl) ?_
  refine lv_aload_n hx hb dX9_claimant_1 rfl (lv_at hl 0 rfl) ?_
  refine lv_iload_n hx hb dX9_claimant_2 rfl (lv_at hl 1 rfl) ?_
  refine lv_iload_n hx hb dX9_claimant_3 rfl (lv_at hl 2 rfl) ?_
  refine cl_p (run_V hC (c9_isLine l G ma M D o n hcnt) (As := [.int o, .int n]) (rest := [.ref (ma 0)]) rfl rfl ml_X9_156 im_X9_isLine se_X9_isLine ini_X9 cd_X9_isLine ⟨rfl, na_X9_isLine⟩ mB_blind (mr_recv hK hM) (mr_B hK hM) hl.1 (Nat.le_of_ble_eq_true rfl) ⟨Nat.le_of_ble_eq_true rfl, Nat.le_of_ble_eq_true rfl⟩ ⟨Nat.le_refl _, Nat.le_refl _⟩ rfl dX9_claimant_4) ?_
  refine lb_eq (tgt := 14) (b := (lnB M o n)) hx hb dX9_claimant_7 (by decide) (fun c_1t => ?_) (fun c_1f => ?_)
  · refine lv_iconst (v := 1) hx hb dX9_claimant_14 (by decide) ?_
    refine mcl_i (run_V hC (c9_holds l G ma M D 1 hI) (As := [.int 1]) (rest := []) rfl rfl ml_X9_140 im_X9_holds se_X9_holds ini_X9 cd_X9_holds ⟨rfl, na_X9_holds⟩ mB_blind (mr_recv hK hM) (mr_B hK hM) hl.1 (Nat.le_of_ble_eq_true rfl) ⟨Nat.le_of_ble_eq_true rfl, Nat.le_of_ble_eq_true rfl⟩ ⟨Nat.le_refl _, Nat.le_refl _⟩ rfl dX9_claimant_15) hS (fun _ h => h) (fun r2 M2 H locs hp2 hM hS => ?_)
    obtain ⟨hr2, hm2⟩ := hp2
    rw [hm2] at hM
    refine top_i (y := 0) (hr2.trans (by decide)) ?_
    refine lv_if_eq (tgt := 34) hx hb dX9_claimant_18 (by decide) (fun _ => ?_) (fun c => absurd c (by decide))
    refine lv_iconst (v := 0) hx hb dX9_claimant_34 (by decide) ?_
    subst hQ
    exact rt_mi hx hb hr hlk hM.none hS  (by simp [clnR, lnT, thr, oI_none, oI_some, c_1t]) dX9_claimant_35
  · obtain ⟨j_o, j_n, hlt_o, hlt_n, rfl, rfl⟩ := lnB_of hcnt c_1f
    have hL3 := hcnt.L3 (o := j_o) (by omega)
    have hix_o := ix_nI (n := j_o) (by omega)
    have hix_n := ix_nI (n := j_n) (by omega)
    refine lv_iconst (v := 0) hx hb dX9_claimant_10 (by decide) ?_
    refine lv_goto (tgt := 15) hx hb dX9_claimant_11 (by decide) ?_
    refine mcl_i (run_V hC (c9_holds l G ma M D 0 hI) (As := [.int 0]) (rest := []) rfl rfl ml_X9_140 im_X9_holds se_X9_holds ini_X9 cd_X9_holds ⟨rfl, na_X9_holds⟩ mB_blind (mr_recv hK hM) (mr_B hK hM) hl.1 (Nat.le_of_ble_eq_true rfl) ⟨Nat.le_of_ble_eq_true rfl, Nat.le_of_ble_eq_true rfl⟩ ⟨Nat.le_refl _, Nat.le_refl _⟩ rfl dX9_claimant_15) hS (fun _ h => h) (fun r4 M4 H locs hp4 hM hS => ?_)
    obtain ⟨hr4, hm4⟩ := hp4
    rw [hm4] at hM
    refine top_i (y := 1) (hr4.trans (by decide)) ?_
    refine lv_if_eq (tgt := 34) hx hb dX9_claimant_18 (by decide) (fun c => absurd c (by decide)) (fun _ => ?_)
    refine lv_aload_n hx hb dX9_claimant_21 rfl (lv_at hl 0 rfl) ?_
    refine ms_get hC hK hM 14 (by decide) fl_X9_38 rfl (v := .ref (ma 14)) rfl (fun q => rfl) dX9_claimant_22 ?_
    refine lv_iconst (v := 3) hx hb dX9_claimant_25 (by decide) ?_
    refine lv_iload_n hx hb dX9_claimant_26 rfl (lv_at hl 1 rfl) ?_
    refine lv_imul hx hb dX9_claimant_27 ?_
    refine top_i (y := nI (3 * j_o)) (pk_mul 3 j_o) ?_
    refine lv_iload_n hx hb dX9_claimant_28 rfl (lv_at hl 2 rfl) ?_
    refine lv_iadd hx hb dX9_claimant_29 ?_
    refine top_i (y := nI ((3 * j_o) + j_n)) (nI_add (3 * j_o) j_n) ?_
    refine ms_ild hC hK hM 14 (i := ((3 * j_o) + j_n)) (show (3 * j_o) + j_n < 30 from by omega) (by decide) rfl rfl (v := M 14 ((3 * j_o) + j_n)) rfl dX9_claimant_30 ?_
    refine lv_goto (tgt := 35) hx hb dX9_claimant_31 (by decide) ?_
    subst hQ
    exact rt_mi hx hb hr hlk hM.none hS  (by simp [clnR, lnT, thr, oI_none, oI_some, c_1f, hix_o, hix_n]) dX9_claimant_35
set_option maxHeartbeats 4000000 in
set_option maxRecDepth 100000 in
theorem c9_amount (l : Launch) (G : gG) (ma : Nat → Nat) (M : MS) (D : mD) (t : Int32) (hI : mI ma) (hcnt : CNT M) : Met l yX9_amount (wB yX9_amount cX9_amount 2 (some .int)) (rmL 2 0 0) (va_Pc [.ref (ma 0), .int t] (mB G ma M D)) (mQi G ma none (fun r M' => r = amtR M t ∧ M' = thr M (tT M t))) 0 0 (mA ma) := by
  refine st_N (own := RX9) (by decide +kernel) rfl (Nat.le_of_ble_eq_true rfl) ?_
  intro p e s m below meth c ls args Q hQ hC hr hlk hnm hl hP
  obtain ⟨hM, hK⟩ := hP
  have hx := hC.1
  have hb := hC.2.1
  have hl : lv_has ls 2 [(0, .ref (ma 0)), (1, .int t)] := hl
  have hS : va_S (mA ma) s.heap s.heap [] := va_S.rf
  obtain ⟨H, locs, hHe, hLe⟩ : ∃ (H : Heap) (locs : List Loc), H = s.heap ∧ locs = [] := ⟨_, _, rfl, rfl⟩
  rw [← hHe] at hM
  have hS : va_S (mA ma) s.heap H locs := by rw [hHe, hLe]; exact va_S.rf
  suffices hgo : W p l e (rmL 2 0 0) s m args below meth c H locs 0 0 Q (F0 m 0 ls []) by
    rw [hHe, hLe] at hgo
    exact hgo
  clear hHe hLe
  have h6 := hcnt.R6
  have h3 := hcnt.S3
  have h16 := hcnt.T16
  have h10 := hcnt.O10
  refine lv_aload_n hx hb dX9_amount_0 rfl (lv_at hl 0 rfl) ?_
  refine lv_aload_n hx hb dX9_amount_1 rfl (lv_at hl 0 rfl) ?_
  refine lv_iload_n hx hb dX9_amount_2 rfl (lv_at hl 1 rfl) ?_
  refine cl_p (run_V hC (c9_isTray l G ma M D t hcnt) (As := [.int t]) (rest := [.ref (ma 0)]) rfl rfl ml_X9_146 im_X9_isTray se_X9_isTray ini_X9 cd_X9_isTray ⟨rfl, na_X9_isTray⟩ mB_blind (mr_recv hK hM) (mr_B hK hM) hl.1 (Nat.le_of_ble_eq_true rfl) ⟨Nat.le_of_ble_eq_true rfl, Nat.le_of_ble_eq_true rfl⟩ ⟨Nat.le_refl _, Nat.le_refl _⟩ rfl dX9_amount_3) ?_
  refine lb_eq (tgt := 13) (b := (inB t (nI (nT M)))) hx hb dX9_amount_6 (by decide) (fun c_1t => ?_) (fun c_1f => ?_)
  · refine lv_iconst (v := 1) hx hb dX9_amount_13 (by decide) ?_
    refine mcl_i (run_V hC (c9_holds l G ma M D 1 hI) (As := [.int 1]) (rest := []) rfl rfl ml_X9_140 im_X9_holds se_X9_holds ini_X9 cd_X9_holds ⟨rfl, na_X9_holds⟩ mB_blind (mr_recv hK hM) (mr_B hK hM) hl.1 (Nat.le_of_ble_eq_true rfl) ⟨Nat.le_of_ble_eq_true rfl, Nat.le_of_ble_eq_true rfl⟩ ⟨Nat.le_refl _, Nat.le_refl _⟩ rfl dX9_amount_14) hS (fun _ h => h) (fun r2 M2 H locs hp2 hM hS => ?_)
    obtain ⟨hr2, hm2⟩ := hp2
    rw [hm2] at hM
    refine top_i (y := 0) (hr2.trans (by decide)) ?_
    refine lv_if_eq (tgt := 29) hx hb dX9_amount_17 (by decide) (fun _ => ?_) (fun c => absurd c (by decide))
    refine lv_iconst (v := 0) hx hb dX9_amount_29 (by decide) ?_
    subst hQ
    exact rt_mi hx hb hr hlk hM.none hS  (by simp [amtR, tT, thr, oI_none, oI_some, c_1t]) dX9_amount_30
  · obtain ⟨j_t, hlt_t, rfl⟩ := inB_of (n := nT M) (by omega) c_1f
    have hix_t := ix_nI (n := j_t) (by omega)
    refine lv_iconst (v := 0) hx hb dX9_amount_9 (by decide) ?_
    refine lv_goto (tgt := 14) hx hb dX9_amount_10 (by decide) ?_
    refine mcl_i (run_V hC (c9_holds l G ma M D 0 hI) (As := [.int 0]) (rest := []) rfl rfl ml_X9_140 im_X9_holds se_X9_holds ini_X9 cd_X9_holds ⟨rfl, na_X9_holds⟩ mB_blind (mr_recv hK hM) (mr_B hK hM) hl.1 (Nat.le_of_ble_eq_true rfl) ⟨Nat.le_of_ble_eq_true rfl, Nat.le_of_ble_eq_true rfl⟩ ⟨Nat.le_refl _, Nat.le_refl _⟩ rfl dX9_amount_14) hS (fun _ h => h) (fun r4 M4 H locs hp4 hM hS => ?_)
    obtain ⟨hr4, hm4⟩ := hp4
    rw [hm4] at hM
    refine top_i (y := 1) (hr4.trans (by decide)) ?_
    refine lv_if_eq (tgt := 29) hx hb dX9_amount_17 (by decide) (fun c => absurd c (by decide)) (fun _ => ?_)
    refine lv_aload_n hx hb dX9_amount_20 rfl (lv_at hl 0 rfl) ?_
    refine ms_get hC hK hM 9 (by decide) fl_X9_26 rfl (v := .ref (ma 9)) rfl (fun q => rfl) dX9_amount_21 ?_
    refine lv_iload_n hx hb dX9_amount_24 rfl (lv_at hl 1 rfl) ?_
    refine ms_ild hC hK hM 9 (i := j_t) (show j_t < 16 from by omega) (by decide) rfl rfl (v := M 9 j_t) rfl dX9_amount_25 ?_
    refine lv_goto (tgt := 30) hx hb dX9_amount_26 (by decide) ?_
    subst hQ
    exact rt_mi hx hb hr hlk hM.none hS  (by simp [amtR, tT, thr, oI_none, oI_some, c_1f, hix_t]) dX9_amount_30
set_option maxHeartbeats 4000000 in
set_option maxRecDepth 100000 in
theorem c9_trayCell (l : Launch) (G : gG) (ma : Nat → Nat) (M : MS) (D : mD) (t : Int32) (hI : mI ma) (hcnt : CNT M) : Met l yX9_trayCell (wB yX9_trayCell cX9_trayCell 3 (some .int)) (rmL 2 0 0) (va_Pc [.ref (ma 0), .int t] (mB G ma M D)) (mQi G ma none (fun r M' => r = tcR M t ∧ M' = thr M (tT M t))) 0 0 (mA ma) := by
  refine st_N (own := RX9) (by decide +kernel) rfl (Nat.le_of_ble_eq_true rfl) ?_
  intro p e s m below meth c ls args Q hQ hC hr hlk hnm hl hP
  obtain ⟨hM, hK⟩ := hP
  have hx := hC.1
  have hb := hC.2.1
  have hl : lv_has ls 3 [(0, .ref (ma 0)), (1, .int t)] := hl
  have hS : va_S (mA ma) s.heap s.heap [] := va_S.rf
  obtain ⟨H, locs, hHe, hLe⟩ : ∃ (H : Heap) (locs : List Loc), H = s.heap ∧ locs = [] := ⟨_, _, rfl, rfl⟩
  rw [← hHe] at hM
  have hS : va_S (mA ma) s.heap H locs := by rw [hHe, hLe]; exact va_S.rf
  suffices hgo : W p l e (rmL 2 0 0) s m args below meth c H locs 0 0 Q (F0 m 0 ls []) by
    rw [hHe, hLe] at hgo
    exact hgo
  clear hHe hLe
  have h6 := hcnt.R6
  have h3 := hcnt.S3
  have h16 := hcnt.T16
  have h10 := hcnt.O10
  refine lv_aload_n hx hb dX9_trayCell_0 rfl (lv_at hl 0 rfl) ?_
  refine lv_aload_n hx hb dX9_trayCell_1 rfl (lv_at hl 0 rfl) ?_
  refine lv_iload_n hx hb dX9_trayCell_2 rfl (lv_at hl 1 rfl) ?_
  refine cl_p (run_V hC (c9_isTray l G ma M D t hcnt) (As := [.int t]) (rest := [.ref (ma 0)]) rfl rfl ml_X9_146 im_X9_isTray se_X9_isTray ini_X9 cd_X9_isTray ⟨rfl, na_X9_isTray⟩ mB_blind (mr_recv hK hM) (mr_B hK hM) hl.1 (Nat.le_of_ble_eq_true rfl) ⟨Nat.le_of_ble_eq_true rfl, Nat.le_of_ble_eq_true rfl⟩ ⟨Nat.le_refl _, Nat.le_refl _⟩ rfl dX9_trayCell_3) ?_
  refine lb_eq (tgt := 13) (b := (inB t (nI (nT M)))) hx hb dX9_trayCell_6 (by decide) (fun c_1t => ?_) (fun c_1f => ?_)
  · refine lv_iconst (v := 1) hx hb dX9_trayCell_13 (by decide) ?_
    refine mcl_i (run_V hC (c9_holds l G ma M D 1 hI) (As := [.int 1]) (rest := []) rfl rfl ml_X9_140 im_X9_holds se_X9_holds ini_X9 cd_X9_holds ⟨rfl, na_X9_holds⟩ mB_blind (mr_recv hK hM) (mr_B hK hM) hl.1 (Nat.le_of_ble_eq_true rfl) ⟨Nat.le_of_ble_eq_true rfl, Nat.le_of_ble_eq_true rfl⟩ ⟨Nat.le_refl _, Nat.le_refl _⟩ rfl dX9_trayCell_14) hS (fun _ h => h) (fun r2 M2 H locs hp2 hM hS => ?_)
    obtain ⟨hr2, hm2⟩ := hp2
    rw [hm2] at hM
    refine top_i (y := 0) (hr2.trans (by decide)) ?_
    refine lv_if_ne (tgt := 22) hx hb dX9_trayCell_17 (by decide) (fun c => absurd c (by decide)) (fun _ => ?_)
    refine lv_iconst (v := 0) hx hb dX9_trayCell_20 (by decide) ?_
    subst hQ
    exact rt_mi hx hb hr hlk hM.none hS  (by simp [tcR, tT, thr, oI_none, oI_some, c_1t]) dX9_trayCell_21
  · obtain ⟨j_t, hlt_t, rfl⟩ := inB_of (n := nT M) (by omega) c_1f
    have hix_t := ix_nI (n := j_t) (by omega)
    refine lv_iconst (v := 0) hx hb dX9_trayCell_9 (by decide) ?_
    refine lv_goto (tgt := 14) hx hb dX9_trayCell_10 (by decide) ?_
    refine mcl_i (run_V hC (c9_holds l G ma M D 0 hI) (As := [.int 0]) (rest := []) rfl rfl ml_X9_140 im_X9_holds se_X9_holds ini_X9 cd_X9_holds ⟨rfl, na_X9_holds⟩ mB_blind (mr_recv hK hM) (mr_B hK hM) hl.1 (Nat.le_of_ble_eq_true rfl) ⟨Nat.le_of_ble_eq_true rfl, Nat.le_of_ble_eq_true rfl⟩ ⟨Nat.le_refl _, Nat.le_refl _⟩ rfl dX9_trayCell_14) hS (fun _ h => h) (fun r4 M4 H locs hp4 hM hS => ?_)
    obtain ⟨hr4, hm4⟩ := hp4
    rw [hm4] at hM
    refine top_i (y := 1) (hr4.trans (by decide)) ?_
    refine lv_if_ne (tgt := 22) hx hb dX9_trayCell_17 (by decide) (fun _ => ?_) (fun c => absurd c (by decide))
    refine lv_aload_n hx hb dX9_trayCell_22 rfl (lv_at hl 0 rfl) ?_
    refine lv_iload_n hx hb dX9_trayCell_23 rfl (lv_at hl 1 rfl) ?_
    refine lv_iconst (v := 0) hx hb dX9_trayCell_24 (by decide) ?_
    refine cl_pi (x := oI (rwA M (nI j_t) false)) (run_V hC (c9_robotWith l G ma (mset M 0 0 0) none (nI j_t) false (hcnt.set rfl)) (As := [.int (nI j_t), .int 0]) (rest := []) rfl rfl ml_X9_149 im_X9_robotWith se_X9_robotWith ini_X9 cd_X9_robotWith ⟨rfl, na_X9_robotWith⟩ mB_blind (mr_recv hK hM) (mr_B hK hM) hl.1 (Nat.le_of_ble_eq_true rfl) ⟨Nat.le_of_ble_eq_true rfl, Nat.le_of_ble_eq_true rfl⟩ ⟨Nat.le_refl _, Nat.le_refl _⟩ rfl dX9_trayCell_25) (rfl) ?_
    rcases ho6 : rwA M (nI j_t) false with _ | k6
    · refine top_i (y := -1) rfl ?_
      refine lv_istore_n (lv' := [(2, .int (-1)), (0, .ref (ma 0)), (1, .int (nI j_t))]) hx hb dX9_trayCell_28 rfl hl (by decide) rfl (fun ls hl => ?_)
      refine lv_iload_n hx hb dX9_trayCell_29 rfl (lv_at hl 0 rfl) ?_
      refine lv_iconst (v := (-1)) hx hb dX9_trayCell_30 (by decide) ?_
      refine lv_icmp_ne (tgt := 43) hx hb dX9_trayCell_31 (by decide) (fun c => absurd c (by decide)) (fun _ => ?_)
      refine lv_aload_n hx hb dX9_trayCell_34 rfl (lv_at hl 1 rfl) ?_
      refine ms_get hC hK hM 7 (by decide) fl_X9_20 rfl (v := .ref (ma 7)) rfl (fun q => rfl) dX9_trayCell_35 ?_
      refine lv_iload_n hx hb dX9_trayCell_38 rfl (lv_at hl 2 rfl) ?_
      refine ms_ild hC hK hM 7 (i := j_t) (show j_t < 16 from by omega) (by decide) rfl rfl (v := M 7 j_t) rfl dX9_trayCell_39 ?_
      refine lv_goto (tgt := 49) hx hb dX9_trayCell_40 (by decide) ?_
      subst hQ
      exact rt_mi hx hb hr hlk hM.none hS  (by simp [tcR, tT, thr, oI_none, oI_some, c_1f, hix_t, ho6]) dX9_trayCell_49
    · refine top_i (y := nI k6) rfl ?_
      have hlt_k6 := (lastP_lt ho6).1
      refine lv_istore_n (lv' := [(2, .int (nI k6)), (0, .ref (ma 0)), (1, .int (nI j_t))]) hx hb dX9_trayCell_28 rfl hl (by decide) rfl (fun ls hl => ?_)
      refine lv_iload_n hx hb dX9_trayCell_29 rfl (lv_at hl 0 rfl) ?_
      refine lv_iconst (v := (-1)) hx hb dX9_trayCell_30 (by decide) ?_
      refine lv_icmp_ne (tgt := 43) hx hb dX9_trayCell_31 (by decide) (fun _ => ?_) (fun c => absurd c (nI_m1 (by omega)))
      refine lv_aload_n hx hb dX9_trayCell_43 rfl (lv_at hl 1 rfl) ?_
      refine ms_get hC hK hM 18 (by decide) fl_X9_44 rfl (v := .ref (ma 18)) rfl (fun q => rfl) dX9_trayCell_44 ?_
      refine lv_iload_n hx hb dX9_trayCell_47 rfl (lv_at hl 0 rfl) ?_
      refine ms_ild hC hK hM 18 (i := k6) (show k6 < 6 from by omega) (by decide) rfl rfl (v := M 18 k6) rfl dX9_trayCell_48 ?_
      subst hQ
      exact rt_mi hx hb hr hlk hM.none hS  (by simp [tcR, tT, thr, oI_none, oI_some, c_1f, hix_t, ho6]) dX9_trayCell_49
set_option maxHeartbeats 4000000 in
set_option maxRecDepth 100000 in
theorem c9_addRobot (l : Launch) (G : gG) (ma : Nat → Nat) (M : MS) (D : mD) (x : Int32) (k : Int32) (hI : mI ma) (hcnt : CNT M) : Met l yX9_addRobot (wB yX9_addRobot cX9_addRobot 5 (some .int)) (rmL 2 0 0) (va_Pc [.ref (ma 0), .int x, .int k] (mB G ma M D)) (mQi G ma none (fun r M' => r = robR M x k ∧ M' = robF M x k)) 0 0 (mA ma) := by
  refine st_N (own := RX9) (by decide +kernel) rfl (Nat.le_of_ble_eq_true rfl) ?_
  intro p e s m below meth c ls args Q hQ hC hr hlk hnm hl hP
  obtain ⟨hM, hK⟩ := hP
  have hx := hC.1
  have hb := hC.2.1
  have hl : lv_has ls 5 [(0, .ref (ma 0)), (1, .int x), (2, .int k)] := hl
  have hS : va_S (mA ma) s.heap s.heap [] := va_S.rf
  obtain ⟨H, locs, hHe, hLe⟩ : ∃ (H : Heap) (locs : List Loc), H = s.heap ∧ locs = [] := ⟨_, _, rfl, rfl⟩
  rw [← hHe] at hM
  have hS : va_S (mA ma) s.heap H locs := by rw [hHe, hLe]; exact va_S.rf
  suffices hgo : W p l e (rmL 2 0 0) s m args below meth c H locs 0 0 Q (F0 m 0 ls []) by
    rw [hHe, hLe] at hgo
    exact hgo
  clear hHe hLe
  have h6 := hcnt.R6
  have h3 := hcnt.S3
  have h16 := hcnt.T16
  have h10 := hcnt.O10
  refine lv_iload_n hx hb dX9_addRobot_0 rfl (lv_at hl 1 rfl) ?_
  refine cl_p (run_S hC (c9_isCell l x) (As := [.int x]) (rest := []) rfl rfl ml_X9_131 sm_X9_isCell ini_X9 cd_X9_isCell na_X9_isCell tB_blind (fun _ _ _ => trivial) hl.1 (Nat.le_of_ble_eq_true rfl) ⟨Nat.le_of_ble_eq_true rfl, Nat.le_of_ble_eq_true rfl⟩ ⟨Nat.le_refl _, Nat.le_refl _⟩ rfl dX9_addRobot_1) ?_
  refine lb_eq (tgt := 20) (b := (inB x 64)) hx hb dX9_addRobot_4 (by decide) (fun c_1t => ?_) (fun c_1f => ?_)
  · refine lv_iconst (v := 0) hx hb dX9_addRobot_20 (by decide) ?_
    refine lv_istore_n (lv' := [(3, .int 0), (0, .ref (ma 0)), (1, .int x), (2, .int k)]) hx hb dX9_addRobot_21 rfl hl (by decide) rfl (fun ls hl => ?_)
    refine lv_aload_n hx hb dX9_addRobot_22 rfl (lv_at hl 1 rfl) ?_
    refine lv_iload_n hx hb dX9_addRobot_23 rfl (lv_at hl 0 rfl) ?_
    refine lv_if_ne (tgt := 31) hx hb dX9_addRobot_24 (by decide) (fun c => absurd c (by decide)) (fun _ => ?_)
    refine lv_iconst (v := 1) hx hb dX9_addRobot_27 (by decide) ?_
    refine lv_goto (tgt := 63) hx hb dX9_addRobot_28 (by decide) ?_
    refine mcl_i (run_V hC (c9_holds l G ma M D 1 hI) (As := [.int 1]) (rest := []) rfl rfl ml_X9_140 im_X9_holds se_X9_holds ini_X9 cd_X9_holds ⟨rfl, na_X9_holds⟩ mB_blind (mr_recv hK hM) (mr_B hK hM) hl.1 (Nat.le_of_ble_eq_true rfl) ⟨Nat.le_of_ble_eq_true rfl, Nat.le_of_ble_eq_true rfl⟩ ⟨Nat.le_refl _, Nat.le_refl _⟩ rfl dX9_addRobot_63) hS (fun _ h => h) (fun r3 M3 H locs hp3 hM hS => ?_)
    obtain ⟨hr3, hm3⟩ := hp3
    rw [hm3] at hM
    refine top_i (y := 0) (hr3.trans (by decide)) ?_
    refine lv_if_ne (tgt := 71) hx hb dX9_addRobot_66 (by decide) (fun c => absurd c (by decide)) (fun _ => ?_)
    refine lv_iconst (v := 0) hx hb dX9_addRobot_69 (by decide) ?_
    subst hQ
    exact rt_mi hx hb hr hlk hM.none hS  (by simp [robR, robF, robT, thr, oI_none, oI_some, c_1t]) dX9_addRobot_70
  · obtain ⟨j_x, hlt_x, rfl⟩ := inB_of (n := 64) (by decide) c_1f
    have hix_x := ix_nI (n := j_x) (by omega)
    refine lv_iload_n hx hb dX9_addRobot_7 rfl (lv_at hl 2 rfl) ?_
    refine lv_bipush (v := 10) hx hb dX9_addRobot_8 (by decide) ?_
    refine cl_p (run_S hC (c9_isIn l k 10) (As := [.int k, .int 10]) (rest := []) rfl rfl ml_X9_99 sm_X9_isIn ini_X9 cd_X9_isIn na_X9_isIn tB_blind (fun _ _ _ => trivial) hl.1 (Nat.le_of_ble_eq_true rfl) ⟨Nat.le_of_ble_eq_true rfl, Nat.le_of_ble_eq_true rfl⟩ ⟨Nat.le_refl _, Nat.le_refl _⟩ rfl dX9_addRobot_10) ?_
    refine lb_eq (tgt := 20) (b := (inB k 10)) hx hb dX9_addRobot_13 (by decide) (fun c_5t => ?_) (fun c_5f => ?_)
    · refine lv_iconst (v := 0) hx hb dX9_addRobot_20 (by decide) ?_
      refine lv_istore_n (lv' := [(3, .int 0), (0, .ref (ma 0)), (1, .int (nI j_x)), (2, .int k)]) hx hb dX9_addRobot_21 rfl hl (by decide) rfl (fun ls hl => ?_)
      refine lv_aload_n hx hb dX9_addRobot_22 rfl (lv_at hl 1 rfl) ?_
      refine lv_iload_n hx hb dX9_addRobot_23 rfl (lv_at hl 0 rfl) ?_
      refine lv_if_ne (tgt := 31) hx hb dX9_addRobot_24 (by decide) (fun c => absurd c (by decide)) (fun _ => ?_)
      refine lv_iconst (v := 1) hx hb dX9_addRobot_27 (by decide) ?_
      refine lv_goto (tgt := 63) hx hb dX9_addRobot_28 (by decide) ?_
      refine mcl_i (run_V hC (c9_holds l G ma M D 1 hI) (As := [.int 1]) (rest := []) rfl rfl ml_X9_140 im_X9_holds se_X9_holds ini_X9 cd_X9_holds ⟨rfl, na_X9_holds⟩ mB_blind (mr_recv hK hM) (mr_B hK hM) hl.1 (Nat.le_of_ble_eq_true rfl) ⟨Nat.le_of_ble_eq_true rfl, Nat.le_of_ble_eq_true rfl⟩ ⟨Nat.le_refl _, Nat.le_refl _⟩ rfl dX9_addRobot_63) hS (fun _ h => h) (fun r7 M7 H locs hp7 hM hS => ?_)
      obtain ⟨hr7, hm7⟩ := hp7
      rw [hm7] at hM
      refine top_i (y := 0) (hr7.trans (by decide)) ?_
      refine lv_if_ne (tgt := 71) hx hb dX9_addRobot_66 (by decide) (fun c => absurd c (by decide)) (fun _ => ?_)
      refine lv_iconst (v := 0) hx hb dX9_addRobot_69 (by decide) ?_
      subst hQ
      exact rt_mi hx hb hr hlk hM.none hS  (by simp [robR, robF, robT, thr, oI_none, oI_some, c_1f, hix_x, c_5t]) dX9_addRobot_70
    · obtain ⟨j_k, hlt_k, rfl⟩ := inB_of (n := 10) (by decide) c_5f
      have hix_k := ix_nI (n := j_k) (by omega)
      refine lv_iconst (v := 1) hx hb dX9_addRobot_16 (by decide) ?_
      refine lv_goto (tgt := 21) hx hb dX9_addRobot_17 (by decide) ?_
      refine lv_istore_n (lv' := [(3, .int 1), (0, .ref (ma 0)), (1, .int (nI j_x)), (2, .int (nI j_k))]) hx hb dX9_addRobot_21 rfl hl (by decide) rfl (fun ls hl => ?_)
      refine lv_aload_n hx hb dX9_addRobot_22 rfl (lv_at hl 1 rfl) ?_
      refine lv_iload_n hx hb dX9_addRobot_23 rfl (lv_at hl 0 rfl) ?_
      refine lv_if_ne (tgt := 31) hx hb dX9_addRobot_24 (by decide) (fun _ => ?_) (fun c => absurd c (by decide))
      refine lv_aload_n hx hb dX9_addRobot_31 rfl (lv_at hl 1 rfl) ?_
      refine ms_get hC hK hM 2 (by decide) fl_X9_7 rfl (v := .ref (ma 2)) rfl (fun q => rfl) dX9_addRobot_32 ?_
      refine lv_iload_n hx hb dX9_addRobot_35 rfl (lv_at hl 2 rfl) ?_
      refine ms_zld hC hK hM 2 (i := j_x) (show j_x < 64 from by omega) (by decide) rfl rfl (v := M 2 j_x) rfl dX9_addRobot_36 ?_
      refine lv_if_ne (tgt := 58) hx hb dX9_addRobot_37 (by decide) (fun c_10t => ?_) (fun c_10f => ?_)
      · refine lv_iconst (v := 2) hx hb dX9_addRobot_58 (by decide) ?_
        refine lv_goto (tgt := 63) hx hb dX9_addRobot_59 (by decide) ?_
        refine mcl_i (run_V hC (c9_holds l G ma M D 2 hI) (As := [.int 2]) (rest := []) rfl rfl ml_X9_140 im_X9_holds se_X9_holds ini_X9 cd_X9_holds ⟨rfl, na_X9_holds⟩ mB_blind (mr_recv hK hM) (mr_B hK hM) hl.1 (Nat.le_of_ble_eq_true rfl) ⟨Nat.le_of_ble_eq_true rfl, Nat.le_of_ble_eq_true rfl⟩ ⟨Nat.le_refl _, Nat.le_refl _⟩ rfl dX9_addRobot_63) hS (fun _ h => h) (fun r11 M11 H locs hp11 hM hS => ?_)
        obtain ⟨hr11, hm11⟩ := hp11
        rw [hm11] at hM
        refine top_i (y := 0) (hr11.trans (by decide)) ?_
        refine lv_if_ne (tgt := 71) hx hb dX9_addRobot_66 (by decide) (fun c => absurd c (by decide)) (fun _ => ?_)
        refine lv_iconst (v := 0) hx hb dX9_addRobot_69 (by decide) ?_
        subst hQ
        exact rt_mi hx hb hr hlk hM.none hS  (by simp [robR, robF, robT, thr, oI_none, oI_some, c_1f, hix_x, c_5f, hix_k, c_10t]) dX9_addRobot_70
      · refine lv_aload_n hx hb dX9_addRobot_40 rfl (lv_at hl 1 rfl) ?_
        refine lv_iload_n hx hb dX9_addRobot_41 rfl (lv_at hl 2 rfl) ?_
        refine cl_p (run_V hC (c9_robotAt l G ma M D (nI j_x) hcnt) (As := [.int (nI j_x)]) (rest := [.ref (ma 0)]) rfl rfl ml_X9_112 im_X9_robotAt se_X9_robotAt ini_X9 cd_X9_robotAt ⟨rfl, na_X9_robotAt⟩ mB_blind (mr_recv hK hM) (mr_B hK hM) hl.1 (Nat.le_of_ble_eq_true rfl) ⟨Nat.le_of_ble_eq_true rfl, Nat.le_of_ble_eq_true rfl⟩ ⟨Nat.le_refl _, Nat.le_refl _⟩ rfl dX9_addRobot_42) ?_
        rcases ho13 : rbA M (nI j_x) with _ | k13
        · refine top_i (y := -1) rfl ?_
          refine lv_iconst (v := (-1)) hx hb dX9_addRobot_45 (by decide) ?_
          refine lv_icmp_ne (tgt := 58) hx hb dX9_addRobot_46 (by decide) (fun c => absurd c (by decide)) (fun _ => ?_)
          refine lv_aload_n hx hb dX9_addRobot_49 rfl (lv_at hl 1 rfl) ?_
          refine ms_get hC hK hM 17 (by decide) fl_X9_103 rfl (v := .int (nI (nR M))) (congrArg Value.int (show M 17 0 = (nI (nR M)) from hcnt.R)) (fun q => rfl) dX9_addRobot_50 ?_
          refine lv_bipush (v := 6) hx hb dX9_addRobot_53 (by decide) ?_
          refine ln_ne (tgt := 62) (a := (nR M)) (b := 6) hx hb dX9_addRobot_55 (by decide) rfl rfl (by omega) (by omega) (fun c_15t => ?_) (fun c_15f => ?_)
          · refine lv_iconst (v := 0) hx hb dX9_addRobot_62 (by decide) ?_
            refine mcl_i (run_V hC (c9_holds l G ma M D 0 hI) (As := [.int 0]) (rest := []) rfl rfl ml_X9_140 im_X9_holds se_X9_holds ini_X9 cd_X9_holds ⟨rfl, na_X9_holds⟩ mB_blind (mr_recv hK hM) (mr_B hK hM) hl.1 (Nat.le_of_ble_eq_true rfl) ⟨Nat.le_of_ble_eq_true rfl, Nat.le_of_ble_eq_true rfl⟩ ⟨Nat.le_refl _, Nat.le_refl _⟩ rfl dX9_addRobot_63) hS (fun _ h => h) (fun r16 M16 H locs hp16 hM hS => ?_)
            obtain ⟨hr16, hm16⟩ := hp16
            rw [hm16] at hM
            refine top_i (y := 1) (hr16.trans (by decide)) ?_
            refine lv_if_ne (tgt := 71) hx hb dX9_addRobot_66 (by decide) (fun _ => ?_) (fun c => absurd c (by decide))
            refine lv_aload_n hx hb dX9_addRobot_71 rfl (lv_at hl 1 rfl) ?_
            refine ms_get hC hK hM 17 (by decide) fl_X9_103 rfl (v := .int (nI (nR M))) (congrArg Value.int (show (mset M 0 0 0) 17 0 = (nI (nR M)) from hcnt.R)) (fun q => rfl) dX9_addRobot_72 ?_
            refine lv_istore (lv' := [(4, .int (nI (nR M))), (3, .int 1), (0, .ref (ma 0)), (1, .int (nI j_x)), (2, .int (nI j_k))]) hx hb dX9_addRobot_75 hl (by decide) rfl (fun ls hl => ?_)
            refine lv_aload_n hx hb dX9_addRobot_77 rfl (lv_at hl 2 rfl) ?_
            refine ms_get hC hK hM 18 (by decide) fl_X9_44 rfl (v := .ref (ma 18)) rfl (fun q => rfl) dX9_addRobot_78 ?_
            refine lv_iload hx hb dX9_addRobot_81 (lv_at hl 0 rfl) ?_
            refine lv_iload_n hx hb dX9_addRobot_83 rfl (lv_at hl 3 rfl) ?_
            refine ms_ist hC hK hI hM hS 18 (mA_k (by decide)) (i := (nR M)) (show nR M < 6 from by omega) rfl rfl dX9_addRobot_84 (fun H locs hM hS => ?_)
            refine lv_aload_n hx hb dX9_addRobot_85 rfl (lv_at hl 2 rfl) ?_
            refine ms_get hC hK hM 19 (by decide) fl_X9_47 rfl (v := .ref (ma 19)) rfl (fun q => rfl) dX9_addRobot_86 ?_
            refine lv_iload hx hb dX9_addRobot_89 (lv_at hl 0 rfl) ?_
            refine lv_iload_n hx hb dX9_addRobot_91 rfl (lv_at hl 4 rfl) ?_
            refine ms_ist hC hK hI hM hS 19 (mA_k (by decide)) (i := (nR M)) (show nR M < 6 from by omega) rfl rfl dX9_addRobot_92 (fun H locs hM hS => ?_)
            refine lv_aload_n hx hb dX9_addRobot_93 rfl (lv_at hl 2 rfl) ?_
            refine lv_dup hx hb dX9_addRobot_94 rfl ?_
            refine ms_get hC hK hM 17 (by decide) fl_X9_103 rfl (v := .int (nI (nR M))) (congrArg Value.int (show (mset (mset (mset M 0 0 0) 18 (nR M) (nI j_x)) 19 (nR M) (nI j_k)) 17 0 = (nI (nR M)) from hcnt.R)) (fun q => rfl) dX9_addRobot_95 ?_
            refine lv_iconst (v := 1) hx hb dX9_addRobot_98 (by decide) ?_
            refine lv_iadd hx hb dX9_addRobot_99 ?_
            refine top_i (y := nI ((nR M) + 1)) (nI_add (nR M) 1) ?_
            refine ms_put hC hK hI hM hS mA_0 17 (by decide) rfl fl_X9_103 rfl rfl rfl rfl dX9_addRobot_100 (fun H locs hM hS => ?_)
            refine lv_aload_n hx hb dX9_addRobot_103 rfl (lv_at hl 2 rfl) ?_
            refine lv_iload hx hb dX9_addRobot_104 (lv_at hl 0 rfl) ?_
            refine lv_iconst (v := 0) hx hb dX9_addRobot_106 (by decide) ?_
            refine mcl_v (run_V hC (c9_becomes l G ma (mset (mset (mset (mset M 0 0 0) 18 (nR M) (nI j_x)) 19 (nR M) (nI j_k)) 17 0 (nI ((nR M) + 1))) none (nR M) 0 hI (by omega)) (As := [.int (nI (nR M)), .int 0]) (rest := []) rfl rfl ml_X9_162 im_X9_becomes se_X9_becomes ini_X9 cd_X9_becomes ⟨rfl, na_X9_becomes⟩ mB_blind (mr_recv hK hM) (mr_B hK hM) hl.1 (Nat.le_of_ble_eq_true rfl) ⟨Nat.le_of_ble_eq_true rfl, Nat.le_of_ble_eq_true rfl⟩ ⟨Nat.le_refl _, Nat.le_refl _⟩ rfl dX9_addRobot_107) hS (fun _ h => h) (fun M18 H locs hp18 hM hS => ?_)
            rw [hp18] at hM
            refine lv_iload hx hb dX9_addRobot_110 (lv_at hl 0 rfl) ?_
            subst hQ
            exact rt_mi hx hb hr hlk hM.none hS  (by simp [robR, robF, robT, thr, oI_none, oI_some, c_1f, hix_x, c_5f, hix_k, c_10f, ho13, c_15t]) dX9_addRobot_112
          · refine lv_iconst (v := 2) hx hb dX9_addRobot_58 (by decide) ?_
            refine lv_goto (tgt := 63) hx hb dX9_addRobot_59 (by decide) ?_
            refine mcl_i (run_V hC (c9_holds l G ma M D 2 hI) (As := [.int 2]) (rest := []) rfl rfl ml_X9_140 im_X9_holds se_X9_holds ini_X9 cd_X9_holds ⟨rfl, na_X9_holds⟩ mB_blind (mr_recv hK hM) (mr_B hK hM) hl.1 (Nat.le_of_ble_eq_true rfl) ⟨Nat.le_of_ble_eq_true rfl, Nat.le_of_ble_eq_true rfl⟩ ⟨Nat.le_refl _, Nat.le_refl _⟩ rfl dX9_addRobot_63) hS (fun _ h => h) (fun r19 M19 H locs hp19 hM hS => ?_)
            obtain ⟨hr19, hm19⟩ := hp19
            rw [hm19] at hM
            refine top_i (y := 0) (hr19.trans (by decide)) ?_
            refine lv_if_ne (tgt := 71) hx hb dX9_addRobot_66 (by decide) (fun c => absurd c (by decide)) (fun _ => ?_)
            refine lv_iconst (v := 0) hx hb dX9_addRobot_69 (by decide) ?_
            subst hQ
            exact rt_mi hx hb hr hlk hM.none hS  (by simp [robR, robF, robT, thr, oI_none, oI_some, c_1f, hix_x, c_5f, hix_k, c_10f, ho13, c_15f]) dX9_addRobot_70
        · refine top_i (y := nI k13) rfl ?_
          have hlt_k13 := (lastE_lt ho13).1
          refine lv_iconst (v := (-1)) hx hb dX9_addRobot_45 (by decide) ?_
          refine lv_icmp_ne (tgt := 58) hx hb dX9_addRobot_46 (by decide) (fun _ => ?_) (fun c => absurd c (nI_m1 (by omega)))
          refine lv_iconst (v := 2) hx hb dX9_addRobot_58 (by decide) ?_
          refine lv_goto (tgt := 63) hx hb dX9_addRobot_59 (by decide) ?_
          refine mcl_i (run_V hC (c9_holds l G ma M D 2 hI) (As := [.int 2]) (rest := []) rfl rfl ml_X9_140 im_X9_holds se_X9_holds ini_X9 cd_X9_holds ⟨rfl, na_X9_holds⟩ mB_blind (mr_recv hK hM) (mr_B hK hM) hl.1 (Nat.le_of_ble_eq_true rfl) ⟨Nat.le_of_ble_eq_true rfl, Nat.le_of_ble_eq_true rfl⟩ ⟨Nat.le_refl _, Nat.le_refl _⟩ rfl dX9_addRobot_63) hS (fun _ h => h) (fun r22 M22 H locs hp22 hM hS => ?_)
          obtain ⟨hr22, hm22⟩ := hp22
          rw [hm22] at hM
          refine top_i (y := 0) (hr22.trans (by decide)) ?_
          refine lv_if_ne (tgt := 71) hx hb dX9_addRobot_66 (by decide) (fun c => absurd c (by decide)) (fun _ => ?_)
          refine lv_iconst (v := 0) hx hb dX9_addRobot_69 (by decide) ?_
          subst hQ
          exact rt_mi hx hb hr hlk hM.none hS  (by simp [robR, robF, robT, thr, oI_none, oI_some, c_1f, hix_x, c_5f, hix_k, c_10f, ho13]) dX9_addRobot_70
set_option maxHeartbeats 4000000 in
set_option maxRecDepth 100000 in
theorem c9_die (l : Launch) (G : gG) (ma : Nat → Nat) (M : MS) (D : mD) (q : Int32) (hI : mI ma) (hcnt : CNT M) : Met l yX9_die (wB yX9_die cX9_die 3 (some .int)) (rmL 2 0 0) (va_Pc [.ref (ma 0), .int q] (mB G ma M D)) (mQi G ma none (fun r M' => r = dieR M q ∧ M' = dieF M q)) 0 0 (mA ma) := by
  refine st_N (own := RX9) (by decide +kernel) rfl (Nat.le_of_ble_eq_true rfl) ?_
  intro p e s m below meth c ls args Q hQ hC hr hlk hnm hl hP
  obtain ⟨hM, hK⟩ := hP
  have hx := hC.1
  have hb := hC.2.1
  have hl : lv_has ls 3 [(0, .ref (ma 0)), (1, .int q)] := hl
  have hS : va_S (mA ma) s.heap s.heap [] := va_S.rf
  obtain ⟨H, locs, hHe, hLe⟩ : ∃ (H : Heap) (locs : List Loc), H = s.heap ∧ locs = [] := ⟨_, _, rfl, rfl⟩
  rw [← hHe] at hM
  have hS : va_S (mA ma) s.heap H locs := by rw [hHe, hLe]; exact va_S.rf
  suffices hgo : W p l e (rmL 2 0 0) s m args below meth c H locs 0 0 Q (F0 m 0 ls []) by
    rw [hHe, hLe] at hgo
    exact hgo
  clear hHe hLe
  have h6 := hcnt.R6
  have h3 := hcnt.S3
  have h16 := hcnt.T16
  have h10 := hcnt.O10
  refine lv_aload_n hx hb dX9_die_0 rfl (lv_at hl 0 rfl) ?_
  refine lv_iload_n hx hb dX9_die_1 rfl (lv_at hl 1 rfl) ?_
  refine cl_p (run_V hC (c9_isRobot l G ma M D q hcnt) (As := [.int q]) (rest := []) rfl rfl ml_X9_165 im_X9_isRobot se_X9_isRobot ini_X9 cd_X9_isRobot ⟨rfl, na_X9_isRobot⟩ mB_blind (mr_recv hK hM) (mr_B hK hM) hl.1 (Nat.le_of_ble_eq_true rfl) ⟨Nat.le_of_ble_eq_true rfl, Nat.le_of_ble_eq_true rfl⟩ ⟨Nat.le_refl _, Nat.le_refl _⟩ rfl dX9_die_2) ?_
  refine lv_istore_n (lv' := [(2, .int (bI (inB q (nI (nR M))))), (0, .ref (ma 0)), (1, .int q)]) hx hb dX9_die_5 rfl hl (by decide) rfl (fun ls hl => ?_)
  refine lv_aload_n hx hb dX9_die_6 rfl (lv_at hl 1 rfl) ?_
  refine lv_iload_n hx hb dX9_die_7 rfl (lv_at hl 0 rfl) ?_
  refine lb_ne (tgt := 15) (b := (inB q (nI (nR M)))) hx hb dX9_die_8 (by decide) (fun c_1t => ?_) (fun c_1f => ?_)
  · obtain ⟨j_q, hlt_q, rfl⟩ := inB_of (n := nR M) (by omega) c_1t
    have hix_q := ix_nI (n := j_q) (by omega)
    refine lv_aload_n hx hb dX9_die_15 rfl (lv_at hl 1 rfl) ?_
    refine ms_get hC hK hM 20 (by decide) fl_X9_50 rfl (v := .ref (ma 20)) rfl (fun q => rfl) dX9_die_16 ?_
    refine lv_iload_n hx hb dX9_die_19 rfl (lv_at hl 2 rfl) ?_
    refine ms_ild hC hK hM 20 (i := j_q) (show j_q < 6 from by omega) (by decide) rfl rfl (v := M 20 j_q) rfl dX9_die_20 ?_
    refine lv_iconst (v := 5) hx hb dX9_die_21 (by decide) ?_
    refine lv_icmp_ne (tgt := 29) hx hb dX9_die_22 (by decide) (fun c_2t => ?_) (fun c_2f => ?_)
    · refine lv_iconst (v := 0) hx hb dX9_die_29 (by decide) ?_
      refine mcl_i (run_V hC (c9_holds l G ma M D 0 hI) (As := [.int 0]) (rest := []) rfl rfl ml_X9_140 im_X9_holds se_X9_holds ini_X9 cd_X9_holds ⟨rfl, na_X9_holds⟩ mB_blind (mr_recv hK hM) (mr_B hK hM) hl.1 (Nat.le_of_ble_eq_true rfl) ⟨Nat.le_of_ble_eq_true rfl, Nat.le_of_ble_eq_true rfl⟩ ⟨Nat.le_refl _, Nat.le_refl _⟩ rfl dX9_die_30) hS (fun _ h => h) (fun r3 M3 H locs hp3 hM hS => ?_)
      obtain ⟨hr3, hm3⟩ := hp3
      rw [hm3] at hM
      refine top_i (y := 1) (hr3.trans (by decide)) ?_
      refine lv_if_ne (tgt := 38) hx hb dX9_die_33 (by decide) (fun _ => ?_) (fun c => absurd c (by decide))
      refine lv_aload_n hx hb dX9_die_38 rfl (lv_at hl 1 rfl) ?_
      refine ms_get hC hK hM 21 (by decide) fl_X9_53 rfl (v := .ref (ma 21)) rfl (fun q => rfl) dX9_die_39 ?_
      refine lv_iload_n hx hb dX9_die_42 rfl (lv_at hl 2 rfl) ?_
      refine lv_aload_n hx hb dX9_die_43 rfl (lv_at hl 1 rfl) ?_
      refine ms_get hC hK hM 20 (by decide) fl_X9_50 rfl (v := .ref (ma 20)) rfl (fun q => rfl) dX9_die_44 ?_
      refine lv_iload_n hx hb dX9_die_47 rfl (lv_at hl 2 rfl) ?_
      refine ms_ild hC hK hM 20 (i := j_q) (show j_q < 6 from by omega) (by decide) rfl rfl (v := M 20 j_q) rfl dX9_die_48 ?_
      refine lv_iconst (v := 1) hx hb dX9_die_49 (by decide) ?_
      refine lv_icmp_ne (tgt := 57) hx hb dX9_die_50 (by decide) (fun c_5t => ?_) (fun c_5f => ?_)
      · refine lv_aload_n hx hb dX9_die_57 rfl (lv_at hl 1 rfl) ?_
        refine ms_get hC hK hM 21 (by decide) fl_X9_53 rfl (v := .ref (ma 21)) rfl (fun q => rfl) dX9_die_58 ?_
        refine lv_iload_n hx hb dX9_die_61 rfl (lv_at hl 2 rfl) ?_
        refine ms_ild hC hK hM 21 (i := j_q) (show j_q < 6 from by omega) (by decide) rfl rfl (v := M 21 j_q) rfl dX9_die_62 ?_
        refine ms_ist hC hK hI hM hS 21 (mA_k (by decide)) (i := j_q) (show j_q < 6 from by omega) rfl rfl dX9_die_63 (fun H locs hM hS => ?_)
        refine lv_aload_n hx hb dX9_die_64 rfl (lv_at hl 1 rfl) ?_
        refine lv_iload_n hx hb dX9_die_65 rfl (lv_at hl 2 rfl) ?_
        refine lv_iconst (v := 5) hx hb dX9_die_66 (by decide) ?_
        refine mcl_v (run_V hC (c9_becomes l G ma (mset (mset M 0 0 0) 21 j_q (M 21 j_q)) none j_q 5 hI (by omega)) (As := [.int (nI j_q), .int 5]) (rest := []) rfl rfl ml_X9_162 im_X9_becomes se_X9_becomes ini_X9 cd_X9_becomes ⟨rfl, na_X9_becomes⟩ mB_blind (mr_recv hK hM) (mr_B hK hM) hl.1 (Nat.le_of_ble_eq_true rfl) ⟨Nat.le_of_ble_eq_true rfl, Nat.le_of_ble_eq_true rfl⟩ ⟨Nat.le_refl _, Nat.le_refl _⟩ rfl dX9_die_67) hS (fun _ h => h) (fun M6 H locs hp6 hM hS => ?_)
        rw [hp6] at hM
        refine lv_aload_n hx hb dX9_die_70 rfl (lv_at hl 1 rfl) ?_
        refine ms_get hC hK hM 21 (by decide) fl_X9_53 rfl (v := .ref (ma 21)) rfl (fun q => rfl) dX9_die_71 ?_
        refine lv_iload_n hx hb dX9_die_74 rfl (lv_at hl 2 rfl) ?_
        refine ms_ild hC hK hM 21 (i := j_q) (show j_q < 6 from by omega) (by decide) rfl rfl (v := (becF (mset (mset M 0 0 0) 21 j_q (M 21 j_q)) j_q 5) 21 j_q) rfl dX9_die_75 ?_
        subst hQ
        exact rt_mi hx hb hr hlk hM.none hS  (by simp [dieR, dieF, dieT, becF, upd, mset, thr, oI_none, oI_some, c_1t, hix_q, c_2t, c_5t]) dX9_die_76
      · refine lv_iconst (v := (-1)) hx hb dX9_die_53 (by decide) ?_
        refine lv_goto (tgt := 63) hx hb dX9_die_54 (by decide) ?_
        refine ms_ist hC hK hI hM hS 21 (mA_k (by decide)) (i := j_q) (show j_q < 6 from by omega) rfl rfl dX9_die_63 (fun H locs hM hS => ?_)
        refine lv_aload_n hx hb dX9_die_64 rfl (lv_at hl 1 rfl) ?_
        refine lv_iload_n hx hb dX9_die_65 rfl (lv_at hl 2 rfl) ?_
        refine lv_iconst (v := 5) hx hb dX9_die_66 (by decide) ?_
        refine mcl_v (run_V hC (c9_becomes l G ma (mset (mset M 0 0 0) 21 j_q (-1)) none j_q 5 hI (by omega)) (As := [.int (nI j_q), .int 5]) (rest := []) rfl rfl ml_X9_162 im_X9_becomes se_X9_becomes ini_X9 cd_X9_becomes ⟨rfl, na_X9_becomes⟩ mB_blind (mr_recv hK hM) (mr_B hK hM) hl.1 (Nat.le_of_ble_eq_true rfl) ⟨Nat.le_of_ble_eq_true rfl, Nat.le_of_ble_eq_true rfl⟩ ⟨Nat.le_refl _, Nat.le_refl _⟩ rfl dX9_die_67) hS (fun _ h => h) (fun M7 H locs hp7 hM hS => ?_)
        rw [hp7] at hM
        refine lv_aload_n hx hb dX9_die_70 rfl (lv_at hl 1 rfl) ?_
        refine ms_get hC hK hM 21 (by decide) fl_X9_53 rfl (v := .ref (ma 21)) rfl (fun q => rfl) dX9_die_71 ?_
        refine lv_iload_n hx hb dX9_die_74 rfl (lv_at hl 2 rfl) ?_
        refine ms_ild hC hK hM 21 (i := j_q) (show j_q < 6 from by omega) (by decide) rfl rfl (v := (becF (mset (mset M 0 0 0) 21 j_q (-1)) j_q 5) 21 j_q) rfl dX9_die_75 ?_
        subst hQ
        exact rt_mi hx hb hr hlk hM.none hS  (by simp [dieR, dieF, dieT, becF, upd, mset, thr, oI_none, oI_some, c_1t, hix_q, c_2t, c_5f]) dX9_die_76
    · refine lv_iconst (v := 2) hx hb dX9_die_25 (by decide) ?_
      refine lv_goto (tgt := 30) hx hb dX9_die_26 (by decide) ?_
      refine mcl_i (run_V hC (c9_holds l G ma M D 2 hI) (As := [.int 2]) (rest := []) rfl rfl ml_X9_140 im_X9_holds se_X9_holds ini_X9 cd_X9_holds ⟨rfl, na_X9_holds⟩ mB_blind (mr_recv hK hM) (mr_B hK hM) hl.1 (Nat.le_of_ble_eq_true rfl) ⟨Nat.le_of_ble_eq_true rfl, Nat.le_of_ble_eq_true rfl⟩ ⟨Nat.le_refl _, Nat.le_refl _⟩ rfl dX9_die_30) hS (fun _ h => h) (fun r8 M8 H locs hp8 hM hS => ?_)
      obtain ⟨hr8, hm8⟩ := hp8
      rw [hm8] at hM
      refine top_i (y := 0) (hr8.trans (by decide)) ?_
      refine lv_if_ne (tgt := 38) hx hb dX9_die_33 (by decide) (fun c => absurd c (by decide)) (fun _ => ?_)
      refine lv_iconst (v := 0) hx hb dX9_die_36 (by decide) ?_
      subst hQ
      exact rt_mi hx hb hr hlk hM.none hS  (by simp [dieR, dieF, dieT, becF, upd, mset, thr, oI_none, oI_some, c_1t, hix_q, c_2f]) dX9_die_37
  · refine lv_iconst (v := 1) hx hb dX9_die_11 (by decide) ?_
    refine lv_goto (tgt := 30) hx hb dX9_die_12 (by decide) ?_
    refine mcl_i (run_V hC (c9_holds l G ma M D 1 hI) (As := [.int 1]) (rest := []) rfl rfl ml_X9_140 im_X9_holds se_X9_holds ini_X9 cd_X9_holds ⟨rfl, na_X9_holds⟩ mB_blind (mr_recv hK hM) (mr_B hK hM) hl.1 (Nat.le_of_ble_eq_true rfl) ⟨Nat.le_of_ble_eq_true rfl, Nat.le_of_ble_eq_true rfl⟩ ⟨Nat.le_refl _, Nat.le_refl _⟩ rfl dX9_die_30) hS (fun _ h => h) (fun r10 M10 H locs hp10 hM hS => ?_)
    obtain ⟨hr10, hm10⟩ := hp10
    rw [hm10] at hM
    refine top_i (y := 0) (hr10.trans (by decide)) ?_
    refine lv_if_ne (tgt := 38) hx hb dX9_die_33 (by decide) (fun c => absurd c (by decide)) (fun _ => ?_)
    refine lv_iconst (v := 0) hx hb dX9_die_36 (by decide) ?_
    subst hQ
    exact rt_mi hx hb hr hlk hM.none hS  (by simp [dieR, dieF, dieT, becF, upd, mset, thr, oI_none, oI_some, c_1f]) dX9_die_37
set_option maxHeartbeats 4000000 in
set_option maxRecDepth 100000 in
theorem c9_repair (l : Launch) (G : gG) (ma : Nat → Nat) (M : MS) (D : mD) (q : Int32) (hI : mI ma) (hcnt : CNT M) : Met l yX9_repair (wB yX9_repair cX9_repair 3 (some .int)) (rmL 2 0 0) (va_Pc [.ref (ma 0), .int q] (mB G ma M D)) (mQi G ma none (fun r M' => r = repR M q ∧ M' = repF M q)) 0 0 (mA ma) := by
  refine st_N (own := RX9) (by decide +kernel) rfl (Nat.le_of_ble_eq_true rfl) ?_
  intro p e s m below meth c ls args Q hQ hC hr hlk hnm hl hP
  obtain ⟨hM, hK⟩ := hP
  have hx := hC.1
  have hb := hC.2.1
  have hl : lv_has ls 3 [(0, .ref (ma 0)), (1, .int q)] := hl
  have hS : va_S (mA ma) s.heap s.heap [] := va_S.rf
  obtain ⟨H, locs, hHe, hLe⟩ : ∃ (H : Heap) (locs : List Loc), H = s.heap ∧ locs = [] := ⟨_, _, rfl, rfl⟩
  rw [← hHe] at hM
  have hS : va_S (mA ma) s.heap H locs := by rw [hHe, hLe]; exact va_S.rf
  suffices hgo : W p l e (rmL 2 0 0) s m args below meth c H locs 0 0 Q (F0 m 0 ls []) by
    rw [hHe, hLe] at hgo
    exact hgo
  clear hHe hLe
  have h6 := hcnt.R6
  have h3 := hcnt.S3
  have h16 := hcnt.T16
  have h10 := hcnt.O10
  refine lv_aload_n hx hb dX9_repair_0 rfl (lv_at hl 0 rfl) ?_
  refine lv_iload_n hx hb dX9_repair_1 rfl (lv_at hl 1 rfl) ?_
  refine cl_p (run_V hC (c9_isRobot l G ma M D q hcnt) (As := [.int q]) (rest := []) rfl rfl ml_X9_165 im_X9_isRobot se_X9_isRobot ini_X9 cd_X9_isRobot ⟨rfl, na_X9_isRobot⟩ mB_blind (mr_recv hK hM) (mr_B hK hM) hl.1 (Nat.le_of_ble_eq_true rfl) ⟨Nat.le_of_ble_eq_true rfl, Nat.le_of_ble_eq_true rfl⟩ ⟨Nat.le_refl _, Nat.le_refl _⟩ rfl dX9_repair_2) ?_
  refine lv_istore_n (lv' := [(2, .int (bI (inB q (nI (nR M))))), (0, .ref (ma 0)), (1, .int q)]) hx hb dX9_repair_5 rfl hl (by decide) rfl (fun ls hl => ?_)
  refine lv_aload_n hx hb dX9_repair_6 rfl (lv_at hl 1 rfl) ?_
  refine lv_iload_n hx hb dX9_repair_7 rfl (lv_at hl 0 rfl) ?_
  refine lb_ne (tgt := 15) (b := (inB q (nI (nR M)))) hx hb dX9_repair_8 (by decide) (fun c_1t => ?_) (fun c_1f => ?_)
  · obtain ⟨j_q, hlt_q, rfl⟩ := inB_of (n := nR M) (by omega) c_1t
    have hix_q := ix_nI (n := j_q) (by omega)
    refine lv_aload_n hx hb dX9_repair_15 rfl (lv_at hl 1 rfl) ?_
    refine ms_get hC hK hM 20 (by decide) fl_X9_50 rfl (v := .ref (ma 20)) rfl (fun q => rfl) dX9_repair_16 ?_
    refine lv_iload_n hx hb dX9_repair_19 rfl (lv_at hl 2 rfl) ?_
    refine ms_ild hC hK hM 20 (i := j_q) (show j_q < 6 from by omega) (by decide) rfl rfl (v := M 20 j_q) rfl dX9_repair_20 ?_
    refine lv_iconst (v := 5) hx hb dX9_repair_21 (by decide) ?_
    refine lv_icmp_ne (tgt := 29) hx hb dX9_repair_22 (by decide) (fun c_2t => ?_) (fun c_2f => ?_)
    · refine lv_iconst (v := 2) hx hb dX9_repair_29 (by decide) ?_
      refine mcl_i (run_V hC (c9_holds l G ma M D 2 hI) (As := [.int 2]) (rest := []) rfl rfl ml_X9_140 im_X9_holds se_X9_holds ini_X9 cd_X9_holds ⟨rfl, na_X9_holds⟩ mB_blind (mr_recv hK hM) (mr_B hK hM) hl.1 (Nat.le_of_ble_eq_true rfl) ⟨Nat.le_of_ble_eq_true rfl, Nat.le_of_ble_eq_true rfl⟩ ⟨Nat.le_refl _, Nat.le_refl _⟩ rfl dX9_repair_30) hS (fun _ h => h) (fun r3 M3 H locs hp3 hM hS => ?_)
      obtain ⟨hr3, hm3⟩ := hp3
      rw [hm3] at hM
      refine top_i (y := 0) (hr3.trans (by decide)) ?_
      refine lv_if_ne (tgt := 38) hx hb dX9_repair_33 (by decide) (fun c => absurd c (by decide)) (fun _ => ?_)
      refine lv_iconst (v := 0) hx hb dX9_repair_36 (by decide) ?_
      subst hQ
      exact rt_mi hx hb hr hlk hM.none hS  (by simp [repR, repF, repT, becF, upd, mset, thr, oI_none, oI_some, c_1t, hix_q, c_2t]) dX9_repair_37
    · refine lv_iconst (v := 0) hx hb dX9_repair_25 (by decide) ?_
      refine lv_goto (tgt := 30) hx hb dX9_repair_26 (by decide) ?_
      refine mcl_i (run_V hC (c9_holds l G ma M D 0 hI) (As := [.int 0]) (rest := []) rfl rfl ml_X9_140 im_X9_holds se_X9_holds ini_X9 cd_X9_holds ⟨rfl, na_X9_holds⟩ mB_blind (mr_recv hK hM) (mr_B hK hM) hl.1 (Nat.le_of_ble_eq_true rfl) ⟨Nat.le_of_ble_eq_true rfl, Nat.le_of_ble_eq_true rfl⟩ ⟨Nat.le_refl _, Nat.le_refl _⟩ rfl dX9_repair_30) hS (fun _ h => h) (fun r5 M5 H locs hp5 hM hS => ?_)
      obtain ⟨hr5, hm5⟩ := hp5
      rw [hm5] at hM
      refine top_i (y := 1) (hr5.trans (by decide)) ?_
      refine lv_if_ne (tgt := 38) hx hb dX9_repair_33 (by decide) (fun _ => ?_) (fun c => absurd c (by decide))
      refine lv_aload_n hx hb dX9_repair_38 rfl (lv_at hl 1 rfl) ?_
      refine lv_iload_n hx hb dX9_repair_39 rfl (lv_at hl 2 rfl) ?_
      refine lv_aload_n hx hb dX9_repair_40 rfl (lv_at hl 1 rfl) ?_
      refine ms_get hC hK hM 21 (by decide) fl_X9_53 rfl (v := .ref (ma 21)) rfl (fun q => rfl) dX9_repair_41 ?_
      refine lv_iload_n hx hb dX9_repair_44 rfl (lv_at hl 2 rfl) ?_
      refine ms_ild hC hK hM 21 (i := j_q) (show j_q < 6 from by omega) (by decide) rfl rfl (v := M 21 j_q) rfl dX9_repair_45 ?_
      refine lv_iconst (v := (-1)) hx hb dX9_repair_46 (by decide) ?_
      refine lv_icmp_ne (tgt := 54) hx hb dX9_repair_47 (by decide) (fun c_7t => ?_) (fun c_7f => ?_)
      · refine lv_iconst (v := 4) hx hb dX9_repair_54 (by decide) ?_
        refine mcl_v (run_V hC (c9_becomes l G ma (mset M 0 0 0) none j_q 4 hI (by omega)) (As := [.int (nI j_q), .int 4]) (rest := []) rfl rfl ml_X9_162 im_X9_becomes se_X9_becomes ini_X9 cd_X9_becomes ⟨rfl, na_X9_becomes⟩ mB_blind (mr_recv hK hM) (mr_B hK hM) hl.1 (Nat.le_of_ble_eq_true rfl) ⟨Nat.le_of_ble_eq_true rfl, Nat.le_of_ble_eq_true rfl⟩ ⟨Nat.le_refl _, Nat.le_refl _⟩ rfl dX9_repair_55) hS (fun _ h => h) (fun M8 H locs hp8 hM hS => ?_)
        rw [hp8] at hM
        refine lv_aload_n hx hb dX9_repair_58 rfl (lv_at hl 1 rfl) ?_
        refine ms_get hC hK hM 20 (by decide) fl_X9_50 rfl (v := .ref (ma 20)) rfl (fun q => rfl) dX9_repair_59 ?_
        refine lv_iload_n hx hb dX9_repair_62 rfl (lv_at hl 2 rfl) ?_
        refine ms_ild hC hK hM 20 (i := j_q) (show j_q < 6 from by omega) (by decide) rfl rfl (v := (becF (mset M 0 0 0) j_q 4) 20 j_q) rfl dX9_repair_63 ?_
        subst hQ
        exact rt_mi hx hb hr hlk hM.none hS  (by simp [repR, repF, repT, becF, upd, mset, thr, oI_none, oI_some, c_1t, hix_q, c_2f, c_7t]) dX9_repair_64
      · refine lv_iconst (v := 0) hx hb dX9_repair_50 (by decide) ?_
        refine lv_goto (tgt := 55) hx hb dX9_repair_51 (by decide) ?_
        refine mcl_v (run_V hC (c9_becomes l G ma (mset M 0 0 0) none j_q 0 hI (by omega)) (As := [.int (nI j_q), .int 0]) (rest := []) rfl rfl ml_X9_162 im_X9_becomes se_X9_becomes ini_X9 cd_X9_becomes ⟨rfl, na_X9_becomes⟩ mB_blind (mr_recv hK hM) (mr_B hK hM) hl.1 (Nat.le_of_ble_eq_true rfl) ⟨Nat.le_of_ble_eq_true rfl, Nat.le_of_ble_eq_true rfl⟩ ⟨Nat.le_refl _, Nat.le_refl _⟩ rfl dX9_repair_55) hS (fun _ h => h) (fun M9 H locs hp9 hM hS => ?_)
        rw [hp9] at hM
        refine lv_aload_n hx hb dX9_repair_58 rfl (lv_at hl 1 rfl) ?_
        refine ms_get hC hK hM 20 (by decide) fl_X9_50 rfl (v := .ref (ma 20)) rfl (fun q => rfl) dX9_repair_59 ?_
        refine lv_iload_n hx hb dX9_repair_62 rfl (lv_at hl 2 rfl) ?_
        refine ms_ild hC hK hM 20 (i := j_q) (show j_q < 6 from by omega) (by decide) rfl rfl (v := (becF (mset M 0 0 0) j_q 0) 20 j_q) rfl dX9_repair_63 ?_
        subst hQ
        exact rt_mi hx hb hr hlk hM.none hS  (by simp [repR, repF, repT, becF, upd, mset, thr, oI_none, oI_some, c_1t, hix_q, c_2f, c_7f]) dX9_repair_64
  · refine lv_iconst (v := 1) hx hb dX9_repair_11 (by decide) ?_
    refine lv_goto (tgt := 30) hx hb dX9_repair_12 (by decide) ?_
    refine mcl_i (run_V hC (c9_holds l G ma M D 1 hI) (As := [.int 1]) (rest := []) rfl rfl ml_X9_140 im_X9_holds se_X9_holds ini_X9 cd_X9_holds ⟨rfl, na_X9_holds⟩ mB_blind (mr_recv hK hM) (mr_B hK hM) hl.1 (Nat.le_of_ble_eq_true rfl) ⟨Nat.le_of_ble_eq_true rfl, Nat.le_of_ble_eq_true rfl⟩ ⟨Nat.le_refl _, Nat.le_refl _⟩ rfl dX9_repair_30) hS (fun _ h => h) (fun r10 M10 H locs hp10 hM hS => ?_)
    obtain ⟨hr10, hm10⟩ := hp10
    rw [hm10] at hM
    refine top_i (y := 0) (hr10.trans (by decide)) ?_
    refine lv_if_ne (tgt := 38) hx hb dX9_repair_33 (by decide) (fun c => absurd c (by decide)) (fun _ => ?_)
    refine lv_iconst (v := 0) hx hb dX9_repair_36 (by decide) ?_
    subst hQ
    exact rt_mi hx hb hr hlk hM.none hS  (by simp [repR, repF, repT, becF, upd, mset, thr, oI_none, oI_some, c_1f]) dX9_repair_37
set_option maxHeartbeats 4000000 in
set_option maxRecDepth 100000 in
theorem c9_robotIn (l : Launch) (G : gG) (ma : Nat → Nat) (M : MS) (D : mD) (x : Int32) (hI : mI ma) (hcnt : CNT M) : Met l yX9_robotIn (wB yX9_robotIn cX9_robotIn 2 (some .int)) (rmL 2 0 0) (va_Pc [.ref (ma 0), .int x] (mB G ma M D)) (mQi G ma none (fun r M' => r = rinR M x ∧ M' = thr M (cellT x))) 0 0 (mA ma) := by
  refine st_N (own := RX9) (by decide +kernel) rfl (Nat.le_of_ble_eq_true rfl) ?_
  intro p e s m below meth c ls args Q hQ hC hr hlk hnm hl hP
  obtain ⟨hM, hK⟩ := hP
  have hx := hC.1
  have hb := hC.2.1
  have hl : lv_has ls 2 [(0, .ref (ma 0)), (1, .int x)] := hl
  have hS : va_S (mA ma) s.heap s.heap [] := va_S.rf
  obtain ⟨H, locs, hHe, hLe⟩ : ∃ (H : Heap) (locs : List Loc), H = s.heap ∧ locs = [] := ⟨_, _, rfl, rfl⟩
  rw [← hHe] at hM
  have hS : va_S (mA ma) s.heap H locs := by rw [hHe, hLe]; exact va_S.rf
  suffices hgo : W p l e (rmL 2 0 0) s m args below meth c H locs 0 0 Q (F0 m 0 ls []) by
    rw [hHe, hLe] at hgo
    exact hgo
  clear hHe hLe
  have h6 := hcnt.R6
  have h3 := hcnt.S3
  have h16 := hcnt.T16
  have h10 := hcnt.O10
  refine lv_aload_n hx hb dX9_robotIn_0 rfl (lv_at hl 0 rfl) ?_
  refine lv_iload_n hx hb dX9_robotIn_1 rfl (lv_at hl 1 rfl) ?_
  refine cl_p (run_S hC (c9_isCell l x) (As := [.int x]) (rest := [.ref (ma 0)]) rfl rfl ml_X9_131 sm_X9_isCell ini_X9 cd_X9_isCell na_X9_isCell tB_blind (fun _ _ _ => trivial) hl.1 (Nat.le_of_ble_eq_true rfl) ⟨Nat.le_of_ble_eq_true rfl, Nat.le_of_ble_eq_true rfl⟩ ⟨Nat.le_refl _, Nat.le_refl _⟩ rfl dX9_robotIn_2) ?_
  refine lb_eq (tgt := 12) (b := (inB x 64)) hx hb dX9_robotIn_5 (by decide) (fun c_1t => ?_) (fun c_1f => ?_)
  · refine lv_iconst (v := 1) hx hb dX9_robotIn_12 (by decide) ?_
    refine mcl_i (run_V hC (c9_holds l G ma M D 1 hI) (As := [.int 1]) (rest := []) rfl rfl ml_X9_140 im_X9_holds se_X9_holds ini_X9 cd_X9_holds ⟨rfl, na_X9_holds⟩ mB_blind (mr_recv hK hM) (mr_B hK hM) hl.1 (Nat.le_of_ble_eq_true rfl) ⟨Nat.le_of_ble_eq_true rfl, Nat.le_of_ble_eq_true rfl⟩ ⟨Nat.le_refl _, Nat.le_refl _⟩ rfl dX9_robotIn_13) hS (fun _ h => h) (fun r2 M2 H locs hp2 hM hS => ?_)
    obtain ⟨hr2, hm2⟩ := hp2
    rw [hm2] at hM
    refine top_i (y := 0) (hr2.trans (by decide)) ?_
    refine lv_if_eq (tgt := 27) hx hb dX9_robotIn_16 (by decide) (fun _ => ?_) (fun c => absurd c (by decide))
    refine lv_iconst (v := 0) hx hb dX9_robotIn_27 (by decide) ?_
    subst hQ
    exact rt_mi hx hb hr hlk hM.none hS  (by simp [rinR, cellT, thr, oI_none, oI_some, c_1t]) dX9_robotIn_28
  · obtain ⟨j_x, hlt_x, rfl⟩ := inB_of (n := 64) (by decide) c_1f
    have hix_x := ix_nI (n := j_x) (by omega)
    refine lv_iconst (v := 0) hx hb dX9_robotIn_8 (by decide) ?_
    refine lv_goto (tgt := 13) hx hb dX9_robotIn_9 (by decide) ?_
    refine mcl_i (run_V hC (c9_holds l G ma M D 0 hI) (As := [.int 0]) (rest := []) rfl rfl ml_X9_140 im_X9_holds se_X9_holds ini_X9 cd_X9_holds ⟨rfl, na_X9_holds⟩ mB_blind (mr_recv hK hM) (mr_B hK hM) hl.1 (Nat.le_of_ble_eq_true rfl) ⟨Nat.le_of_ble_eq_true rfl, Nat.le_of_ble_eq_true rfl⟩ ⟨Nat.le_refl _, Nat.le_refl _⟩ rfl dX9_robotIn_13) hS (fun _ h => h) (fun r4 M4 H locs hp4 hM hS => ?_)
    obtain ⟨hr4, hm4⟩ := hp4
    rw [hm4] at hM
    refine top_i (y := 1) (hr4.trans (by decide)) ?_
    refine lv_if_eq (tgt := 27) hx hb dX9_robotIn_16 (by decide) (fun c => absurd c (by decide)) (fun _ => ?_)
    refine lv_aload_n hx hb dX9_robotIn_19 rfl (lv_at hl 0 rfl) ?_
    refine lv_iload_n hx hb dX9_robotIn_20 rfl (lv_at hl 1 rfl) ?_
    refine cl_pi (x := oI (rbA M (nI j_x))) (run_V hC (c9_robotAt l G ma (mset M 0 0 0) none (nI j_x) (hcnt.set rfl)) (As := [.int (nI j_x)]) (rest := []) rfl rfl ml_X9_112 im_X9_robotAt se_X9_robotAt ini_X9 cd_X9_robotAt ⟨rfl, na_X9_robotAt⟩ mB_blind (mr_recv hK hM) (mr_B hK hM) hl.1 (Nat.le_of_ble_eq_true rfl) ⟨Nat.le_of_ble_eq_true rfl, Nat.le_of_ble_eq_true rfl⟩ ⟨Nat.le_refl _, Nat.le_refl _⟩ rfl dX9_robotIn_21) (rfl) ?_
    rcases ho6 : rbA M (nI j_x) with _ | k6
    · refine top_i (y := -1) rfl ?_
      refine lv_goto (tgt := 28) hx hb dX9_robotIn_24 (by decide) ?_
      subst hQ
      exact rt_mi hx hb hr hlk hM.none hS  (by simp [rinR, cellT, thr, oI_none, oI_some, c_1f, hix_x, ho6]) dX9_robotIn_28
    · refine top_i (y := nI k6) rfl ?_
      have hlt_k6 := (lastE_lt ho6).1
      refine lv_goto (tgt := 28) hx hb dX9_robotIn_24 (by decide) ?_
      subst hQ
      exact rt_mi hx hb hr hlk hM.none hS  (by simp [rinR, cellT, thr, oI_none, oI_some, c_1f, hix_x, ho6]) dX9_robotIn_28
set_option maxHeartbeats 4000000 in
set_option maxRecDepth 100000 in
theorem c9_cellOf (l : Launch) (G : gG) (ma : Nat → Nat) (M : MS) (D : mD) (q : Int32) (hI : mI ma) (hcnt : CNT M) : Met l yX9_cellOf (wB yX9_cellOf cX9_cellOf 2 (some .int)) (rmL 2 0 0) (va_Pc [.ref (ma 0), .int q] (mB G ma M D)) (mQi G ma none (fun r M' => r = rowR M 18 q ∧ M' = thr M (rT M q))) 0 0 (mA ma) := by
  refine st_N (own := RX9) (by decide +kernel) rfl (Nat.le_of_ble_eq_true rfl) ?_
  intro p e s m below meth c ls args Q hQ hC hr hlk hnm hl hP
  obtain ⟨hM, hK⟩ := hP
  have hx := hC.1
  have hb := hC.2.1
  have hl : lv_has ls 2 [(0, .ref (ma 0)), (1, .int q)] := hl
  have hS : va_S (mA ma) s.heap s.heap [] := va_S.rf
  obtain ⟨H, locs, hHe, hLe⟩ : ∃ (H : Heap) (locs : List Loc), H = s.heap ∧ locs = [] := ⟨_, _, rfl, rfl⟩
  rw [← hHe] at hM
  have hS : va_S (mA ma) s.heap H locs := by rw [hHe, hLe]; exact va_S.rf
  suffices hgo : W p l e (rmL 2 0 0) s m args below meth c H locs 0 0 Q (F0 m 0 ls []) by
    rw [hHe, hLe] at hgo
    exact hgo
  clear hHe hLe
  have h6 := hcnt.R6
  have h3 := hcnt.S3
  have h16 := hcnt.T16
  have h10 := hcnt.O10
  refine lv_aload_n hx hb dX9_cellOf_0 rfl (lv_at hl 0 rfl) ?_
  refine lv_aload_n hx hb dX9_cellOf_1 rfl (lv_at hl 0 rfl) ?_
  refine lv_iload_n hx hb dX9_cellOf_2 rfl (lv_at hl 1 rfl) ?_
  refine cl_p (run_V hC (c9_isRobot l G ma M D q hcnt) (As := [.int q]) (rest := [.ref (ma 0)]) rfl rfl ml_X9_165 im_X9_isRobot se_X9_isRobot ini_X9 cd_X9_isRobot ⟨rfl, na_X9_isRobot⟩ mB_blind (mr_recv hK hM) (mr_B hK hM) hl.1 (Nat.le_of_ble_eq_true rfl) ⟨Nat.le_of_ble_eq_true rfl, Nat.le_of_ble_eq_true rfl⟩ ⟨Nat.le_refl _, Nat.le_refl _⟩ rfl dX9_cellOf_3) ?_
  refine lb_eq (tgt := 13) (b := (inB q (nI (nR M)))) hx hb dX9_cellOf_6 (by decide) (fun c_1t => ?_) (fun c_1f => ?_)
  · refine lv_iconst (v := 1) hx hb dX9_cellOf_13 (by decide) ?_
    refine mcl_i (run_V hC (c9_holds l G ma M D 1 hI) (As := [.int 1]) (rest := []) rfl rfl ml_X9_140 im_X9_holds se_X9_holds ini_X9 cd_X9_holds ⟨rfl, na_X9_holds⟩ mB_blind (mr_recv hK hM) (mr_B hK hM) hl.1 (Nat.le_of_ble_eq_true rfl) ⟨Nat.le_of_ble_eq_true rfl, Nat.le_of_ble_eq_true rfl⟩ ⟨Nat.le_refl _, Nat.le_refl _⟩ rfl dX9_cellOf_14) hS (fun _ h => h) (fun r2 M2 H locs hp2 hM hS => ?_)
    obtain ⟨hr2, hm2⟩ := hp2
    rw [hm2] at hM
    refine top_i (y := 0) (hr2.trans (by decide)) ?_
    refine lv_if_eq (tgt := 29) hx hb dX9_cellOf_17 (by decide) (fun _ => ?_) (fun c => absurd c (by decide))
    refine lv_iconst (v := 0) hx hb dX9_cellOf_29 (by decide) ?_
    subst hQ
    exact rt_mi hx hb hr hlk hM.none hS  (by simp [rowR, rT, thr, oI_none, oI_some, c_1t]) dX9_cellOf_30
  · obtain ⟨j_q, hlt_q, rfl⟩ := inB_of (n := nR M) (by omega) c_1f
    have hix_q := ix_nI (n := j_q) (by omega)
    refine lv_iconst (v := 0) hx hb dX9_cellOf_9 (by decide) ?_
    refine lv_goto (tgt := 14) hx hb dX9_cellOf_10 (by decide) ?_
    refine mcl_i (run_V hC (c9_holds l G ma M D 0 hI) (As := [.int 0]) (rest := []) rfl rfl ml_X9_140 im_X9_holds se_X9_holds ini_X9 cd_X9_holds ⟨rfl, na_X9_holds⟩ mB_blind (mr_recv hK hM) (mr_B hK hM) hl.1 (Nat.le_of_ble_eq_true rfl) ⟨Nat.le_of_ble_eq_true rfl, Nat.le_of_ble_eq_true rfl⟩ ⟨Nat.le_refl _, Nat.le_refl _⟩ rfl dX9_cellOf_14) hS (fun _ h => h) (fun r4 M4 H locs hp4 hM hS => ?_)
    obtain ⟨hr4, hm4⟩ := hp4
    rw [hm4] at hM
    refine top_i (y := 1) (hr4.trans (by decide)) ?_
    refine lv_if_eq (tgt := 29) hx hb dX9_cellOf_17 (by decide) (fun c => absurd c (by decide)) (fun _ => ?_)
    refine lv_aload_n hx hb dX9_cellOf_20 rfl (lv_at hl 0 rfl) ?_
    refine ms_get hC hK hM 18 (by decide) fl_X9_44 rfl (v := .ref (ma 18)) rfl (fun q => rfl) dX9_cellOf_21 ?_
    refine lv_iload_n hx hb dX9_cellOf_24 rfl (lv_at hl 1 rfl) ?_
    refine ms_ild hC hK hM 18 (i := j_q) (show j_q < 6 from by omega) (by decide) rfl rfl (v := M 18 j_q) rfl dX9_cellOf_25 ?_
    refine lv_goto (tgt := 30) hx hb dX9_cellOf_26 (by decide) ?_
    subst hQ
    exact rt_mi hx hb hr hlk hM.none hS  (by simp [rowR, rT, thr, oI_none, oI_some, c_1f, hix_q]) dX9_cellOf_30
set_option maxHeartbeats 4000000 in
set_option maxRecDepth 100000 in
theorem c9_state (l : Launch) (G : gG) (ma : Nat → Nat) (M : MS) (D : mD) (q : Int32) (hI : mI ma) (hcnt : CNT M) : Met l yX9_state (wB yX9_state cX9_state 2 (some .int)) (rmL 2 0 0) (va_Pc [.ref (ma 0), .int q] (mB G ma M D)) (mQi G ma none (fun r M' => r = rowR M 20 q ∧ M' = thr M (rT M q))) 0 0 (mA ma) := by
  refine st_N (own := RX9) (by decide +kernel) rfl (Nat.le_of_ble_eq_true rfl) ?_
  intro p e s m below meth c ls args Q hQ hC hr hlk hnm hl hP
  obtain ⟨hM, hK⟩ := hP
  have hx := hC.1
  have hb := hC.2.1
  have hl : lv_has ls 2 [(0, .ref (ma 0)), (1, .int q)] := hl
  have hS : va_S (mA ma) s.heap s.heap [] := va_S.rf
  obtain ⟨H, locs, hHe, hLe⟩ : ∃ (H : Heap) (locs : List Loc), H = s.heap ∧ locs = [] := ⟨_, _, rfl, rfl⟩
  rw [← hHe] at hM
  have hS : va_S (mA ma) s.heap H locs := by rw [hHe, hLe]; exact va_S.rf
  suffices hgo : W p l e (rmL 2 0 0) s m args below meth c H locs 0 0 Q (F0 m 0 ls []) by
    rw [hHe, hLe] at hgo
    exact hgo
  clear hHe hLe
  have h6 := hcnt.R6
  have h3 := hcnt.S3
  have h16 := hcnt.T16
  have h10 := hcnt.O10
  refine lv_aload_n hx hb dX9_state_0 rfl (lv_at hl 0 rfl) ?_
  refine lv_aload_n hx hb dX9_state_1 rfl (lv_at hl 0 rfl) ?_
  refine lv_iload_n hx hb dX9_state_2 rfl (lv_at hl 1 rfl) ?_
  refine cl_p (run_V hC (c9_isRobot l G ma M D q hcnt) (As := [.int q]) (rest := [.ref (ma 0)]) rfl rfl ml_X9_165 im_X9_isRobot se_X9_isRobot ini_X9 cd_X9_isRobot ⟨rfl, na_X9_isRobot⟩ mB_blind (mr_recv hK hM) (mr_B hK hM) hl.1 (Nat.le_of_ble_eq_true rfl) ⟨Nat.le_of_ble_eq_true rfl, Nat.le_of_ble_eq_true rfl⟩ ⟨Nat.le_refl _, Nat.le_refl _⟩ rfl dX9_state_3) ?_
  refine lb_eq (tgt := 13) (b := (inB q (nI (nR M)))) hx hb dX9_state_6 (by decide) (fun c_1t => ?_) (fun c_1f => ?_)
  · refine lv_iconst (v := 1) hx hb dX9_state_13 (by decide) ?_
    refine mcl_i (run_V hC (c9_holds l G ma M D 1 hI) (As := [.int 1]) (rest := []) rfl rfl ml_X9_140 im_X9_holds se_X9_holds ini_X9 cd_X9_holds ⟨rfl, na_X9_holds⟩ mB_blind (mr_recv hK hM) (mr_B hK hM) hl.1 (Nat.le_of_ble_eq_true rfl) ⟨Nat.le_of_ble_eq_true rfl, Nat.le_of_ble_eq_true rfl⟩ ⟨Nat.le_refl _, Nat.le_refl _⟩ rfl dX9_state_14) hS (fun _ h => h) (fun r2 M2 H locs hp2 hM hS => ?_)
    obtain ⟨hr2, hm2⟩ := hp2
    rw [hm2] at hM
    refine top_i (y := 0) (hr2.trans (by decide)) ?_
    refine lv_if_eq (tgt := 29) hx hb dX9_state_17 (by decide) (fun _ => ?_) (fun c => absurd c (by decide))
    refine lv_iconst (v := 0) hx hb dX9_state_29 (by decide) ?_
    subst hQ
    exact rt_mi hx hb hr hlk hM.none hS  (by simp [rowR, rT, thr, oI_none, oI_some, c_1t]) dX9_state_30
  · obtain ⟨j_q, hlt_q, rfl⟩ := inB_of (n := nR M) (by omega) c_1f
    have hix_q := ix_nI (n := j_q) (by omega)
    refine lv_iconst (v := 0) hx hb dX9_state_9 (by decide) ?_
    refine lv_goto (tgt := 14) hx hb dX9_state_10 (by decide) ?_
    refine mcl_i (run_V hC (c9_holds l G ma M D 0 hI) (As := [.int 0]) (rest := []) rfl rfl ml_X9_140 im_X9_holds se_X9_holds ini_X9 cd_X9_holds ⟨rfl, na_X9_holds⟩ mB_blind (mr_recv hK hM) (mr_B hK hM) hl.1 (Nat.le_of_ble_eq_true rfl) ⟨Nat.le_of_ble_eq_true rfl, Nat.le_of_ble_eq_true rfl⟩ ⟨Nat.le_refl _, Nat.le_refl _⟩ rfl dX9_state_14) hS (fun _ h => h) (fun r4 M4 H locs hp4 hM hS => ?_)
    obtain ⟨hr4, hm4⟩ := hp4
    rw [hm4] at hM
    refine top_i (y := 1) (hr4.trans (by decide)) ?_
    refine lv_if_eq (tgt := 29) hx hb dX9_state_17 (by decide) (fun c => absurd c (by decide)) (fun _ => ?_)
    refine lv_aload_n hx hb dX9_state_20 rfl (lv_at hl 0 rfl) ?_
    refine ms_get hC hK hM 20 (by decide) fl_X9_50 rfl (v := .ref (ma 20)) rfl (fun q => rfl) dX9_state_21 ?_
    refine lv_iload_n hx hb dX9_state_24 rfl (lv_at hl 1 rfl) ?_
    refine ms_ild hC hK hM 20 (i := j_q) (show j_q < 6 from by omega) (by decide) rfl rfl (v := M 20 j_q) rfl dX9_state_25 ?_
    refine lv_goto (tgt := 30) hx hb dX9_state_26 (by decide) ?_
    subst hQ
    exact rt_mi hx hb hr hlk hM.none hS  (by simp [rowR, rT, thr, oI_none, oI_some, c_1f, hix_q]) dX9_state_30
set_option maxHeartbeats 4000000 in
set_option maxRecDepth 100000 in
theorem c9_trayOf (l : Launch) (G : gG) (ma : Nat → Nat) (M : MS) (D : mD) (q : Int32) (hI : mI ma) (hcnt : CNT M) : Met l yX9_trayOf (wB yX9_trayOf cX9_trayOf 2 (some .int)) (rmL 2 0 0) (va_Pc [.ref (ma 0), .int q] (mB G ma M D)) (mQi G ma none (fun r M' => r = rowR M 21 q ∧ M' = thr M (rT M q))) 0 0 (mA ma) := by
  refine st_N (own := RX9) (by decide +kernel) rfl (Nat.le_of_ble_eq_true rfl) ?_
  intro p e s m below meth c ls args Q hQ hC hr hlk hnm hl hP
  obtain ⟨hM, hK⟩ := hP
  have hx := hC.1
  have hb := hC.2.1
  have hl : lv_has ls 2 [(0, .ref (ma 0)), (1, .int q)] := hl
  have hS : va_S (mA ma) s.heap s.heap [] := va_S.rf
  obtain ⟨H, locs, hHe, hLe⟩ : ∃ (H : Heap) (locs : List Loc), H = s.heap ∧ locs = [] := ⟨_, _, rfl, rfl⟩
  rw [← hHe] at hM
  have hS : va_S (mA ma) s.heap H locs := by rw [hHe, hLe]; exact va_S.rf
  suffices hgo : W p l e (rmL 2 0 0) s m args below meth c H locs 0 0 Q (F0 m 0 ls []) by
    rw [hHe, hLe] at hgo
    exact hgo
  clear hHe hLe
  have h6 := hcnt.R6
  have h3 := hcnt.S3
  have h16 := hcnt.T16
  have h10 := hcnt.O10
  refine lv_aload_n hx hb dX9_trayOf_0 rfl (lv_at hl 0 rfl) ?_
  refine lv_aload_n hx hb dX9_trayOf_1 rfl (lv_at hl 0 rfl) ?_
  refine lv_iload_n hx hb dX9_trayOf_2 rfl (lv_at hl 1 rfl) ?_
  refine cl_p (run_V hC (c9_isRobot l G ma M D q hcnt) (As := [.int q]) (rest := [.ref (ma 0)]) rfl rfl ml_X9_165 im_X9_isRobot se_X9_isRobot ini_X9 cd_X9_isRobot ⟨rfl, na_X9_isRobot⟩ mB_blind (mr_recv hK hM) (mr_B hK hM) hl.1 (Nat.le_of_ble_eq_true rfl) ⟨Nat.le_of_ble_eq_true rfl, Nat.le_of_ble_eq_true rfl⟩ ⟨Nat.le_refl _, Nat.le_refl _⟩ rfl dX9_trayOf_3) ?_
  refine lb_eq (tgt := 13) (b := (inB q (nI (nR M)))) hx hb dX9_trayOf_6 (by decide) (fun c_1t => ?_) (fun c_1f => ?_)
  · refine lv_iconst (v := 1) hx hb dX9_trayOf_13 (by decide) ?_
    refine mcl_i (run_V hC (c9_holds l G ma M D 1 hI) (As := [.int 1]) (rest := []) rfl rfl ml_X9_140 im_X9_holds se_X9_holds ini_X9 cd_X9_holds ⟨rfl, na_X9_holds⟩ mB_blind (mr_recv hK hM) (mr_B hK hM) hl.1 (Nat.le_of_ble_eq_true rfl) ⟨Nat.le_of_ble_eq_true rfl, Nat.le_of_ble_eq_true rfl⟩ ⟨Nat.le_refl _, Nat.le_refl _⟩ rfl dX9_trayOf_14) hS (fun _ h => h) (fun r2 M2 H locs hp2 hM hS => ?_)
    obtain ⟨hr2, hm2⟩ := hp2
    rw [hm2] at hM
    refine top_i (y := 0) (hr2.trans (by decide)) ?_
    refine lv_if_eq (tgt := 29) hx hb dX9_trayOf_17 (by decide) (fun _ => ?_) (fun c => absurd c (by decide))
    refine lv_iconst (v := 0) hx hb dX9_trayOf_29 (by decide) ?_
    subst hQ
    exact rt_mi hx hb hr hlk hM.none hS  (by simp [rowR, rT, thr, oI_none, oI_some, c_1t]) dX9_trayOf_30
  · obtain ⟨j_q, hlt_q, rfl⟩ := inB_of (n := nR M) (by omega) c_1f
    have hix_q := ix_nI (n := j_q) (by omega)
    refine lv_iconst (v := 0) hx hb dX9_trayOf_9 (by decide) ?_
    refine lv_goto (tgt := 14) hx hb dX9_trayOf_10 (by decide) ?_
    refine mcl_i (run_V hC (c9_holds l G ma M D 0 hI) (As := [.int 0]) (rest := []) rfl rfl ml_X9_140 im_X9_holds se_X9_holds ini_X9 cd_X9_holds ⟨rfl, na_X9_holds⟩ mB_blind (mr_recv hK hM) (mr_B hK hM) hl.1 (Nat.le_of_ble_eq_true rfl) ⟨Nat.le_of_ble_eq_true rfl, Nat.le_of_ble_eq_true rfl⟩ ⟨Nat.le_refl _, Nat.le_refl _⟩ rfl dX9_trayOf_14) hS (fun _ h => h) (fun r4 M4 H locs hp4 hM hS => ?_)
    obtain ⟨hr4, hm4⟩ := hp4
    rw [hm4] at hM
    refine top_i (y := 1) (hr4.trans (by decide)) ?_
    refine lv_if_eq (tgt := 29) hx hb dX9_trayOf_17 (by decide) (fun c => absurd c (by decide)) (fun _ => ?_)
    refine lv_aload_n hx hb dX9_trayOf_20 rfl (lv_at hl 0 rfl) ?_
    refine ms_get hC hK hM 21 (by decide) fl_X9_53 rfl (v := .ref (ma 21)) rfl (fun q => rfl) dX9_trayOf_21 ?_
    refine lv_iload_n hx hb dX9_trayOf_24 rfl (lv_at hl 1 rfl) ?_
    refine ms_ild hC hK hM 21 (i := j_q) (show j_q < 6 from by omega) (by decide) rfl rfl (v := M 21 j_q) rfl dX9_trayOf_25 ?_
    refine lv_goto (tgt := 30) hx hb dX9_trayOf_26 (by decide) ?_
    subst hQ
    exact rt_mi hx hb hr hlk hM.none hS  (by simp [rowR, rT, thr, oI_none, oI_some, c_1f, hix_q]) dX9_trayOf_30
set_option maxHeartbeats 4000000 in
set_option maxRecDepth 100000 in
theorem c9_asked (l : Launch) (G : gG) (ma : Nat → Nat) (M : MS) (D : mD) (q : Int32) (hI : mI ma) (hcnt : CNT M) : Met l yX9_asked (wB yX9_asked cX9_asked 2 (some .int)) (rmL 2 0 0) (va_Pc [.ref (ma 0), .int q] (mB G ma M D)) (mQi G ma none (fun r M' => r = rowR M 24 q ∧ M' = thr M (rT M q))) 0 0 (mA ma) := by
  refine st_N (own := RX9) (by decide +kernel) rfl (Nat.le_of_ble_eq_true rfl) ?_
  intro p e s m below meth c ls args Q hQ hC hr hlk hnm hl hP
  obtain ⟨hM, hK⟩ := hP
  have hx := hC.1
  have hb := hC.2.1
  have hl : lv_has ls 2 [(0, .ref (ma 0)), (1, .int q)] := hl
  have hS : va_S (mA ma) s.heap s.heap [] := va_S.rf
  obtain ⟨H, locs, hHe, hLe⟩ : ∃ (H : Heap) (locs : List Loc), H = s.heap ∧ locs = [] := ⟨_, _, rfl, rfl⟩
  rw [← hHe] at hM
  have hS : va_S (mA ma) s.heap H locs := by rw [hHe, hLe]; exact va_S.rf
  suffices hgo : W p l e (rmL 2 0 0) s m args below meth c H locs 0 0 Q (F0 m 0 ls []) by
    rw [hHe, hLe] at hgo
    exact hgo
  clear hHe hLe
  have h6 := hcnt.R6
  have h3 := hcnt.S3
  have h16 := hcnt.T16
  have h10 := hcnt.O10
  refine lv_aload_n hx hb dX9_asked_0 rfl (lv_at hl 0 rfl) ?_
  refine lv_aload_n hx hb dX9_asked_1 rfl (lv_at hl 0 rfl) ?_
  refine lv_iload_n hx hb dX9_asked_2 rfl (lv_at hl 1 rfl) ?_
  refine cl_p (run_V hC (c9_isRobot l G ma M D q hcnt) (As := [.int q]) (rest := [.ref (ma 0)]) rfl rfl ml_X9_165 im_X9_isRobot se_X9_isRobot ini_X9 cd_X9_isRobot ⟨rfl, na_X9_isRobot⟩ mB_blind (mr_recv hK hM) (mr_B hK hM) hl.1 (Nat.le_of_ble_eq_true rfl) ⟨Nat.le_of_ble_eq_true rfl, Nat.le_of_ble_eq_true rfl⟩ ⟨Nat.le_refl _, Nat.le_refl _⟩ rfl dX9_asked_3) ?_
  refine lb_eq (tgt := 13) (b := (inB q (nI (nR M)))) hx hb dX9_asked_6 (by decide) (fun c_1t => ?_) (fun c_1f => ?_)
  · refine lv_iconst (v := 1) hx hb dX9_asked_13 (by decide) ?_
    refine mcl_i (run_V hC (c9_holds l G ma M D 1 hI) (As := [.int 1]) (rest := []) rfl rfl ml_X9_140 im_X9_holds se_X9_holds ini_X9 cd_X9_holds ⟨rfl, na_X9_holds⟩ mB_blind (mr_recv hK hM) (mr_B hK hM) hl.1 (Nat.le_of_ble_eq_true rfl) ⟨Nat.le_of_ble_eq_true rfl, Nat.le_of_ble_eq_true rfl⟩ ⟨Nat.le_refl _, Nat.le_refl _⟩ rfl dX9_asked_14) hS (fun _ h => h) (fun r2 M2 H locs hp2 hM hS => ?_)
    obtain ⟨hr2, hm2⟩ := hp2
    rw [hm2] at hM
    refine top_i (y := 0) (hr2.trans (by decide)) ?_
    refine lv_if_eq (tgt := 29) hx hb dX9_asked_17 (by decide) (fun _ => ?_) (fun c => absurd c (by decide))
    refine lv_iconst (v := 0) hx hb dX9_asked_29 (by decide) ?_
    subst hQ
    exact rt_mi hx hb hr hlk hM.none hS  (by simp [rowR, rT, thr, oI_none, oI_some, c_1t]) dX9_asked_30
  · obtain ⟨j_q, hlt_q, rfl⟩ := inB_of (n := nR M) (by omega) c_1f
    have hix_q := ix_nI (n := j_q) (by omega)
    refine lv_iconst (v := 0) hx hb dX9_asked_9 (by decide) ?_
    refine lv_goto (tgt := 14) hx hb dX9_asked_10 (by decide) ?_
    refine mcl_i (run_V hC (c9_holds l G ma M D 0 hI) (As := [.int 0]) (rest := []) rfl rfl ml_X9_140 im_X9_holds se_X9_holds ini_X9 cd_X9_holds ⟨rfl, na_X9_holds⟩ mB_blind (mr_recv hK hM) (mr_B hK hM) hl.1 (Nat.le_of_ble_eq_true rfl) ⟨Nat.le_of_ble_eq_true rfl, Nat.le_of_ble_eq_true rfl⟩ ⟨Nat.le_refl _, Nat.le_refl _⟩ rfl dX9_asked_14) hS (fun _ h => h) (fun r4 M4 H locs hp4 hM hS => ?_)
    obtain ⟨hr4, hm4⟩ := hp4
    rw [hm4] at hM
    refine top_i (y := 1) (hr4.trans (by decide)) ?_
    refine lv_if_eq (tgt := 29) hx hb dX9_asked_17 (by decide) (fun c => absurd c (by decide)) (fun _ => ?_)
    refine lv_aload_n hx hb dX9_asked_20 rfl (lv_at hl 0 rfl) ?_
    refine ms_get hC hK hM 24 (by decide) fl_X9_62 rfl (v := .ref (ma 24)) rfl (fun q => rfl) dX9_asked_21 ?_
    refine lv_iload_n hx hb dX9_asked_24 rfl (lv_at hl 1 rfl) ?_
    refine ms_ild hC hK hM 24 (i := j_q) (show j_q < 6 from by omega) (by decide) rfl rfl (v := M 24 j_q) rfl dX9_asked_25 ?_
    refine lv_goto (tgt := 30) hx hb dX9_asked_26 (by decide) ?_
    subst hQ
    exact rt_mi hx hb hr hlk hM.none hS  (by simp [rowR, rT, thr, oI_none, oI_some, c_1f, hix_q]) dX9_asked_30
set_option maxHeartbeats 4000000 in
set_option maxRecDepth 100000 in
theorem c9_time (l : Launch) (G : gG) (ma : Nat → Nat) (M : MS) (D : mD) (hI : mI ma) : Met l yX9_time (wB yX9_time cX9_time 1 (some .int)) (rmL 0 0 0) (va_Pc [.ref (ma 0)] (mB G ma M D)) (mQi G ma none (fun r M' => r = M 1 0 ∧ M' = thr M 0)) 0 0 (mA ma) := by
  refine st_N (own := RX9) (by decide +kernel) rfl (Nat.le_of_ble_eq_true rfl) ?_
  intro p e s m below meth c ls args Q hQ hC hr hlk hnm hl hP
  obtain ⟨hM, hK⟩ := hP
  have hx := hC.1
  have hb := hC.2.1
  have hl : lv_has ls 1 [(0, .ref (ma 0))] := hl
  have hS : va_S (mA ma) s.heap s.heap [] := va_S.rf
  obtain ⟨H, locs, hHe, hLe⟩ : ∃ (H : Heap) (locs : List Loc), H = s.heap ∧ locs = [] := ⟨_, _, rfl, rfl⟩
  rw [← hHe] at hM
  have hS : va_S (mA ma) s.heap H locs := by rw [hHe, hLe]; exact va_S.rf
  suffices hgo : W p l e (rmL 0 0 0) s m args below meth c H locs 0 0 Q (F0 m 0 ls []) by
    rw [hHe, hLe] at hgo
    exact hgo
  clear hHe hLe
  refine lv_aload_n hx hb dX9_time_0 rfl (lv_at hl 0 rfl) ?_
  refine lv_iconst (v := 0) hx hb dX9_time_1 (by decide) ?_
  refine ms_put hC hK hI hM hS mA_0 0 (by decide) rfl fl_X9_95 rfl rfl rfl rfl dX9_time_2 (fun H locs hM hS => ?_)
  refine lv_aload_n hx hb dX9_time_5 rfl (lv_at hl 0 rfl) ?_
  refine ms_get hC hK hM 1 (by decide) fl_X9_171 rfl (v := .int (M 1 0)) rfl (fun q => rfl) dX9_time_6 ?_
  subst hQ
  exact rt_mi hx hb hr hlk hM.none hS  (⟨rfl, rfl⟩) dX9_time_9
set_option maxHeartbeats 4000000 in
set_option maxRecDepth 100000 in
theorem c9_steps (l : Launch) (G : gG) (ma : Nat → Nat) (M : MS) (D : mD) (hI : mI ma) : Met l yX9_steps (wB yX9_steps cX9_steps 1 (some .int)) (rmL 0 0 0) (va_Pc [.ref (ma 0)] (mB G ma M D)) (mQi G ma none (fun r M' => r = M 28 0 ∧ M' = thr M 0)) 0 0 (mA ma) := by
  refine st_N (own := RX9) (by decide +kernel) rfl (Nat.le_of_ble_eq_true rfl) ?_
  intro p e s m below meth c ls args Q hQ hC hr hlk hnm hl hP
  obtain ⟨hM, hK⟩ := hP
  have hx := hC.1
  have hb := hC.2.1
  have hl : lv_has ls 1 [(0, .ref (ma 0))] := hl
  have hS : va_S (mA ma) s.heap s.heap [] := va_S.rf
  obtain ⟨H, locs, hHe, hLe⟩ : ∃ (H : Heap) (locs : List Loc), H = s.heap ∧ locs = [] := ⟨_, _, rfl, rfl⟩
  rw [← hHe] at hM
  have hS : va_S (mA ma) s.heap H locs := by rw [hHe, hLe]; exact va_S.rf
  suffices hgo : W p l e (rmL 0 0 0) s m args below meth c H locs 0 0 Q (F0 m 0 ls []) by
    rw [hHe, hLe] at hgo
    exact hgo
  clear hHe hLe
  refine lv_aload_n hx hb dX9_steps_0 rfl (lv_at hl 0 rfl) ?_
  refine lv_iconst (v := 0) hx hb dX9_steps_1 (by decide) ?_
  refine ms_put hC hK hI hM hS mA_0 0 (by decide) rfl fl_X9_95 rfl rfl rfl rfl dX9_steps_2 (fun H locs hM hS => ?_)
  refine lv_aload_n hx hb dX9_steps_5 rfl (lv_at hl 0 rfl) ?_
  refine ms_get hC hK hM 28 (by decide) fl_X9_189 rfl (v := .int (M 28 0)) rfl (fun q => rfl) dX9_steps_6 ?_
  subst hQ
  exact rt_mi hx hb hr hlk hM.none hS  (⟨rfl, rfl⟩) dX9_steps_9
set_option maxHeartbeats 4000000 in
set_option maxRecDepth 100000 in
theorem c9_rings (l : Launch) (G : gG) (ma : Nat → Nat) (M : MS) (D : mD) (hI : mI ma) : Met l yX9_rings (wB yX9_rings cX9_rings 1 (some .int)) (rmL 0 0 0) (va_Pc [.ref (ma 0)] (mB G ma M D)) (mQi G ma none (fun r M' => r = M 29 0 ∧ M' = thr M 0)) 0 0 (mA ma) := by
  refine st_N (own := RX9) (by decide +kernel) rfl (Nat.le_of_ble_eq_true rfl) ?_
  intro p e s m below meth c ls args Q hQ hC hr hlk hnm hl hP
  obtain ⟨hM, hK⟩ := hP
  have hx := hC.1
  have hb := hC.2.1
  have hl : lv_has ls 1 [(0, .ref (ma 0))] := hl
  have hS : va_S (mA ma) s.heap s.heap [] := va_S.rf
  obtain ⟨H, locs, hHe, hLe⟩ : ∃ (H : Heap) (locs : List Loc), H = s.heap ∧ locs = [] := ⟨_, _, rfl, rfl⟩
  rw [← hHe] at hM
  have hS : va_S (mA ma) s.heap H locs := by rw [hHe, hLe]; exact va_S.rf
  suffices hgo : W p l e (rmL 0 0 0) s m args below meth c H locs 0 0 Q (F0 m 0 ls []) by
    rw [hHe, hLe] at hgo
    exact hgo
  clear hHe hLe
  refine lv_aload_n hx hb dX9_rings_0 rfl (lv_at hl 0 rfl) ?_
  refine lv_iconst (v := 0) hx hb dX9_rings_1 (by decide) ?_
  refine ms_put hC hK hI hM hS mA_0 0 (by decide) rfl fl_X9_95 rfl rfl rfl rfl dX9_rings_2 (fun H locs hM hS => ?_)
  refine lv_aload_n hx hb dX9_rings_5 rfl (lv_at hl 0 rfl) ?_
  refine ms_get hC hK hM 29 (by decide) fl_X9_201 rfl (v := .int (M 29 0)) rfl (fun q => rfl) dX9_rings_6 ?_
  subst hQ
  exact rt_mi hx hb hr hlk hM.none hS  (⟨rfl, rfl⟩) dX9_rings_9
set_option maxHeartbeats 4000000 in
set_option maxRecDepth 100000 in
theorem c9_yields (l : Launch) (G : gG) (ma : Nat → Nat) (M : MS) (D : mD) (hI : mI ma) : Met l yX9_yields (wB yX9_yields cX9_yields 1 (some .int)) (rmL 0 0 0) (va_Pc [.ref (ma 0)] (mB G ma M D)) (mQi G ma none (fun r M' => r = M 30 0 ∧ M' = thr M 0)) 0 0 (mA ma) := by
  refine st_N (own := RX9) (by decide +kernel) rfl (Nat.le_of_ble_eq_true rfl) ?_
  intro p e s m below meth c ls args Q hQ hC hr hlk hnm hl hP
  obtain ⟨hM, hK⟩ := hP
  have hx := hC.1
  have hb := hC.2.1
  have hl : lv_has ls 1 [(0, .ref (ma 0))] := hl
  have hS : va_S (mA ma) s.heap s.heap [] := va_S.rf
  obtain ⟨H, locs, hHe, hLe⟩ : ∃ (H : Heap) (locs : List Loc), H = s.heap ∧ locs = [] := ⟨_, _, rfl, rfl⟩
  rw [← hHe] at hM
  have hS : va_S (mA ma) s.heap H locs := by rw [hHe, hLe]; exact va_S.rf
  suffices hgo : W p l e (rmL 0 0 0) s m args below meth c H locs 0 0 Q (F0 m 0 ls []) by
    rw [hHe, hLe] at hgo
    exact hgo
  clear hHe hLe
  refine lv_aload_n hx hb dX9_yields_0 rfl (lv_at hl 0 rfl) ?_
  refine lv_iconst (v := 0) hx hb dX9_yields_1 (by decide) ?_
  refine ms_put hC hK hI hM hS mA_0 0 (by decide) rfl fl_X9_95 rfl rfl rfl rfl dX9_yields_2 (fun H locs hM hS => ?_)
  refine lv_aload_n hx hb dX9_yields_5 rfl (lv_at hl 0 rfl) ?_
  refine ms_get hC hK hM 30 (by decide) fl_X9_195 rfl (v := .int (M 30 0)) rfl (fun q => rfl) dX9_yields_6 ?_
  subst hQ
  exact rt_mi hx hb hr hlk hM.none hS  (⟨rfl, rfl⟩) dX9_yields_9
set_option maxHeartbeats 4000000 in
set_option maxRecDepth 100000 in
theorem c9_knots (l : Launch) (G : gG) (ma : Nat → Nat) (M : MS) (D : mD) (hI : mI ma) : Met l yX9_knots (wB yX9_knots cX9_knots 1 (some .int)) (rmL 0 0 0) (va_Pc [.ref (ma 0)] (mB G ma M D)) (mQi G ma none (fun r M' => r = M 31 0 ∧ M' = thr M 0)) 0 0 (mA ma) := by
  refine st_N (own := RX9) (by decide +kernel) rfl (Nat.le_of_ble_eq_true rfl) ?_
  intro p e s m below meth c ls args Q hQ hC hr hlk hnm hl hP
  obtain ⟨hM, hK⟩ := hP
  have hx := hC.1
  have hb := hC.2.1
  have hl : lv_has ls 1 [(0, .ref (ma 0))] := hl
  have hS : va_S (mA ma) s.heap s.heap [] := va_S.rf
  obtain ⟨H, locs, hHe, hLe⟩ : ∃ (H : Heap) (locs : List Loc), H = s.heap ∧ locs = [] := ⟨_, _, rfl, rfl⟩
  rw [← hHe] at hM
  have hS : va_S (mA ma) s.heap H locs := by rw [hHe, hLe]; exact va_S.rf
  suffices hgo : W p l e (rmL 0 0 0) s m args below meth c H locs 0 0 Q (F0 m 0 ls []) by
    rw [hHe, hLe] at hgo
    exact hgo
  clear hHe hLe
  refine lv_aload_n hx hb dX9_knots_0 rfl (lv_at hl 0 rfl) ?_
  refine lv_iconst (v := 0) hx hb dX9_knots_1 (by decide) ?_
  refine ms_put hC hK hI hM hS mA_0 0 (by decide) rfl fl_X9_95 rfl rfl rfl rfl dX9_knots_2 (fun H locs hM hS => ?_)
  refine lv_aload_n hx hb dX9_knots_5 rfl (lv_at hl 0 rfl) ?_
  refine ms_get hC hK hM 31 (by decide) fl_X9_217 rfl (v := .int (M 31 0)) rfl (fun q => rfl) dX9_knots_6 ?_
  subst hQ
  exact rt_mi hx hb hr hlk hM.none hS  (⟨rfl, rfl⟩) dX9_knots_9
set_option maxHeartbeats 4000000 in
set_option maxRecDepth 100000 in
theorem c9_picks (l : Launch) (G : gG) (ma : Nat → Nat) (M : MS) (D : mD) (hI : mI ma) : Met l yX9_picks (wB yX9_picks cX9_picks 1 (some .int)) (rmL 0 0 0) (va_Pc [.ref (ma 0)] (mB G ma M D)) (mQi G ma none (fun r M' => r = M 34 0 ∧ M' = thr M 0)) 0 0 (mA ma) := by
  refine st_N (own := RX9) (by decide +kernel) rfl (Nat.le_of_ble_eq_true rfl) ?_
  intro p e s m below meth c ls args Q hQ hC hr hlk hnm hl hP
  obtain ⟨hM, hK⟩ := hP
  have hx := hC.1
  have hb := hC.2.1
  have hl : lv_has ls 1 [(0, .ref (ma 0))] := hl
  have hS : va_S (mA ma) s.heap s.heap [] := va_S.rf
  obtain ⟨H, locs, hHe, hLe⟩ : ∃ (H : Heap) (locs : List Loc), H = s.heap ∧ locs = [] := ⟨_, _, rfl, rfl⟩
  rw [← hHe] at hM
  have hS : va_S (mA ma) s.heap H locs := by rw [hHe, hLe]; exact va_S.rf
  suffices hgo : W p l e (rmL 0 0 0) s m args below meth c H locs 0 0 Q (F0 m 0 ls []) by
    rw [hHe, hLe] at hgo
    exact hgo
  clear hHe hLe
  refine lv_aload_n hx hb dX9_picks_0 rfl (lv_at hl 0 rfl) ?_
  refine lv_iconst (v := 0) hx hb dX9_picks_1 (by decide) ?_
  refine ms_put hC hK hI hM hS mA_0 0 (by decide) rfl fl_X9_95 rfl rfl rfl rfl dX9_picks_2 (fun H locs hM hS => ?_)
  refine lv_aload_n hx hb dX9_picks_5 rfl (lv_at hl 0 rfl) ?_
  refine ms_get hC hK hM 34 (by decide) fl_X9_168 rfl (v := .int (M 34 0)) rfl (fun q => rfl) dX9_picks_6 ?_
  subst hQ
  exact rt_mi hx hb hr hlk hM.none hS  (⟨rfl, rfl⟩) dX9_picks_9
set_option maxHeartbeats 4000000 in
set_option maxRecDepth 100000 in
theorem c9_stock (l : Launch) (G : gG) (ma : Nat → Nat) (M : MS) (D : mD) (g : Int32) (hI : mI ma) (hcnt : CNT M) : Met l yX9_stock (wB yX9_stock cX9_stock 4 (some .int)) (rmL 2 0 0) (va_Pc [.ref (ma 0), .int g] (mB G ma M D)) (mQi G ma none (fun r M' => r = stkR M g ∧ M' = thr M (gT g))) 0 0 (mA ma) := by
  refine st_N (own := RX9) (by decide +kernel) rfl (Nat.le_of_ble_eq_true rfl) ?_
  intro p e s m below meth c ls args Q hQ hC hr hlk hnm hl hP
  obtain ⟨hM, hK⟩ := hP
  have hx := hC.1
  have hb := hC.2.1
  have hl : lv_has ls 4 [(0, .ref (ma 0)), (1, .int g)] := hl
  have hS : va_S (mA ma) s.heap s.heap [] := va_S.rf
  obtain ⟨H, locs, hHe, hLe⟩ : ∃ (H : Heap) (locs : List Loc), H = s.heap ∧ locs = [] := ⟨_, _, rfl, rfl⟩
  rw [← hHe] at hM
  have hS : va_S (mA ma) s.heap H locs := by rw [hHe, hLe]; exact va_S.rf
  suffices hgo : W p l e (rmL 2 0 0) s m args below meth c H locs 0 0 Q (F0 m 0 ls []) by
    rw [hHe, hLe] at hgo
    exact hgo
  clear hHe hLe
  have h6 := hcnt.R6
  have h3 := hcnt.S3
  have h16 := hcnt.T16
  have h10 := hcnt.O10
  refine lv_aload_n hx hb dX9_stock_0 rfl (lv_at hl 0 rfl) ?_
  refine lv_iload_n hx hb dX9_stock_1 rfl (lv_at hl 1 rfl) ?_
  refine lv_bipush (v := 6) hx hb dX9_stock_2 (by decide) ?_
  refine cl_p (run_S hC (c9_isIn l g 6) (As := [.int g, .int 6]) (rest := [.ref (ma 0)]) rfl rfl ml_X9_99 sm_X9_isIn ini_X9 cd_X9_isIn na_X9_isIn tB_blind (fun _ _ _ => trivial) hl.1 (Nat.le_of_ble_eq_true rfl) ⟨Nat.le_of_ble_eq_true rfl, Nat.le_of_ble_eq_true rfl⟩ ⟨Nat.le_refl _, Nat.le_refl _⟩ rfl dX9_stock_4) ?_
  refine lb_eq (tgt := 14) (b := (inB g 6)) hx hb dX9_stock_7 (by decide) (fun c_1t => ?_) (fun c_1f => ?_)
  · refine lv_iconst (v := 1) hx hb dX9_stock_14 (by decide) ?_
    refine mcl_i (run_V hC (c9_holds l G ma M D 1 hI) (As := [.int 1]) (rest := []) rfl rfl ml_X9_140 im_X9_holds se_X9_holds ini_X9 cd_X9_holds ⟨rfl, na_X9_holds⟩ mB_blind (mr_recv hK hM) (mr_B hK hM) hl.1 (Nat.le_of_ble_eq_true rfl) ⟨Nat.le_of_ble_eq_true rfl, Nat.le_of_ble_eq_true rfl⟩ ⟨Nat.le_refl _, Nat.le_refl _⟩ rfl dX9_stock_15) hS (fun _ h => h) (fun r2 M2 H locs hp2 hM hS => ?_)
    obtain ⟨hr2, hm2⟩ := hp2
    rw [hm2] at hM
    refine top_i (y := 0) (hr2.trans (by decide)) ?_
    refine lv_if_ne (tgt := 23) hx hb dX9_stock_18 (by decide) (fun c => absurd c (by decide)) (fun _ => ?_)
    refine lv_iconst (v := 0) hx hb dX9_stock_21 (by decide) ?_
    subst hQ
    exact rt_mi hx hb hr hlk hM.none hS  (by simp [stkR, gT, thr, oI_none, oI_some, c_1t]) dX9_stock_22
  · obtain ⟨j_g, hlt_g, rfl⟩ := inB_of (n := 6) (by decide) c_1f
    have hix_g := ix_nI (n := j_g) (by omega)
    refine lv_iconst (v := 0) hx hb dX9_stock_10 (by decide) ?_
    refine lv_goto (tgt := 15) hx hb dX9_stock_11 (by decide) ?_
    refine mcl_i (run_V hC (c9_holds l G ma M D 0 hI) (As := [.int 0]) (rest := []) rfl rfl ml_X9_140 im_X9_holds se_X9_holds ini_X9 cd_X9_holds ⟨rfl, na_X9_holds⟩ mB_blind (mr_recv hK hM) (mr_B hK hM) hl.1 (Nat.le_of_ble_eq_true rfl) ⟨Nat.le_of_ble_eq_true rfl, Nat.le_of_ble_eq_true rfl⟩ ⟨Nat.le_refl _, Nat.le_refl _⟩ rfl dX9_stock_15) hS (fun _ h => h) (fun r4 M4 H locs hp4 hM hS => ?_)
    obtain ⟨hr4, hm4⟩ := hp4
    rw [hm4] at hM
    refine top_i (y := 1) (hr4.trans (by decide)) ?_
    refine lv_if_ne (tgt := 23) hx hb dX9_stock_18 (by decide) (fun _ => ?_) (fun c => absurd c (by decide))
    refine lv_iconst (v := 0) hx hb dX9_stock_23 (by decide) ?_
    refine lv_istore_n (lv' := [(2, .int 0), (0, .ref (ma 0)), (1, .int (nI j_g))]) hx hb dX9_stock_24 rfl hl (by decide) rfl (fun ls hl => ?_)
    refine lv_iconst (v := 0) hx hb dX9_stock_25 (by decide) ?_
    refine lv_istore_n (lv' := [(3, .int 0), (2, .int 0), (0, .ref (ma 0)), (1, .int (nI j_g))]) hx hb dX9_stock_26 rfl hl (by decide) rfl (fun ls hl => ?_)
    have loop6 : ∀ (n : Nat) (t : Nat) (H : Heap) (locs : List Loc) (ls : Array Slot) (htn : t ≤ nT M) (hM : WS G ma (mset M 0 0 0) none H) (hS : va_S (mA ma) s.heap H locs), nT M - t < n → lv_has ls 4 [(3, .int (nI t)), (2, .int (stkGo M (nI j_g) t)), (0, .ref (ma 0)), (1, .int (nI j_g))] → W p l e (rmL 2 0 0) s m args below meth c H locs 0 0 Q (F0 m 27 ls []) := by
      intro n
      induction n with
      | zero => intro t H locs ls htn hM hS hm hl; omega
      | succ n ih6 =>
        intro t H locs ls htn hM hS hm hl
        refine lv_iload_n hx hb dX9_stock_27 rfl (lv_at hl 0 rfl) ?_
        refine lv_aload_n hx hb dX9_stock_28 rfl (lv_at hl 2 rfl) ?_
        refine ms_get hC hK hM 6 (by decide) fl_X9_109 rfl (v := .int (nI (nT M))) (congrArg Value.int (show (mset M 0 0 0) 6 0 = (nI (nT M)) from hcnt.T)) (fun q => rfl) dX9_stock_29 ?_
        refine ln_ge (tgt := 64) (a := t) (b := (nT M)) hx hb dX9_stock_32 (by decide) rfl rfl (by omega) (by omega) (fun c_7t => ?_) (fun c_7f => ?_)
        · refine lv_iload_n hx hb dX9_stock_64 rfl (lv_at hl 1 rfl) ?_
          subst hQ
          exact rt_mi hx hb hr hlk hM.none hS  (by rw [show t = nT M by omega]; simp [stkR, gT, thr, c_1f, hix_g, c_7t]) dX9_stock_65
        · refine lv_iload_n hx hb dX9_stock_35 rfl (lv_at hl 1 rfl) ?_
          refine lv_aload_n hx hb dX9_stock_36 rfl (lv_at hl 2 rfl) ?_
          refine ms_get hC hK hM 8 (by decide) fl_X9_23 rfl (v := .ref (ma 8)) rfl (fun q => rfl) dX9_stock_37 ?_
          refine lv_iload_n hx hb dX9_stock_40 rfl (lv_at hl 0 rfl) ?_
          refine ms_ild hC hK hM 8 (i := t) (show t < 16 from by omega) (by decide) rfl rfl (v := M 8 t) rfl dX9_stock_41 ?_
          refine lv_iload_n hx hb dX9_stock_42 rfl (lv_at hl 3 rfl) ?_
          refine lv_icmp_ne (tgt := 55) hx hb dX9_stock_43 (by decide) (fun c_8t => ?_) (fun c_8f => ?_)
          · refine lv_iconst (v := 0) hx hb dX9_stock_55 (by decide) ?_
            refine lv_iadd hx hb dX9_stock_56 ?_
            refine lv_istore_n (lv' := [(2, .int ((stkGo M (nI j_g) t) + 0)), (3, .int (nI t)), (0, .ref (ma 0)), (1, .int (nI j_g))]) hx hb dX9_stock_57 rfl hl (by decide) rfl (fun ls hl => ?_)
            have hsum : (stkGo M (nI j_g) t) + 0 = stkGo M (nI j_g) (t + 1) := by simp [stkGo, c_8t]
            rw [hsum] at hl
            have hl : lv_has ls 4 [(2, .int (stkGo M (nI j_g) (t + 1))), (3, .int (nI t)), (0, .ref (ma 0)), (1, .int (nI j_g))] := hl
            refine lv_iinc (v := nI (t + 1)) (lv' := [(3, .int (nI (t + 1))), (2, .int (stkGo M (nI j_g) (t + 1))), (0, .ref (ma 0)), (1, .int (nI j_g))]) hx hb dX9_stock_58 hl (k := 1) rfl (nI_inc _) (by decide) rfl (fun ls hl => ?_)
            refine lv_goto (tgt := 27) hx hb dX9_stock_61 (by decide) ?_
            exact ih6 (t + 1) H locs ls (by omega) hM hS (by omega) (lv_sub hl [0, 1, 2, 3] rfl)
          · refine lv_aload_n hx hb dX9_stock_46 rfl (lv_at hl 2 rfl) ?_
            refine ms_get hC hK hM 9 (by decide) fl_X9_26 rfl (v := .ref (ma 9)) rfl (fun q => rfl) dX9_stock_47 ?_
            refine lv_iload_n hx hb dX9_stock_50 rfl (lv_at hl 0 rfl) ?_
            refine ms_ild hC hK hM 9 (i := t) (show t < 16 from by omega) (by decide) rfl rfl (v := M 9 t) rfl dX9_stock_51 ?_
            refine lv_goto (tgt := 56) hx hb dX9_stock_52 (by decide) ?_
            refine lv_iadd hx hb dX9_stock_56 ?_
            refine lv_istore_n (lv' := [(2, .int ((stkGo M (nI j_g) t) + (M 9 t))), (3, .int (nI t)), (0, .ref (ma 0)), (1, .int (nI j_g))]) hx hb dX9_stock_57 rfl hl (by decide) rfl (fun ls hl => ?_)
            have hsum : (stkGo M (nI j_g) t) + (M 9 t) = stkGo M (nI j_g) (t + 1) := by simp [stkGo, c_8f]
            rw [hsum] at hl
            have hl : lv_has ls 4 [(2, .int (stkGo M (nI j_g) (t + 1))), (3, .int (nI t)), (0, .ref (ma 0)), (1, .int (nI j_g))] := hl
            refine lv_iinc (v := nI (t + 1)) (lv' := [(3, .int (nI (t + 1))), (2, .int (stkGo M (nI j_g) (t + 1))), (0, .ref (ma 0)), (1, .int (nI j_g))]) hx hb dX9_stock_58 hl (k := 1) rfl (nI_inc _) (by decide) rfl (fun ls hl => ?_)
            refine lv_goto (tgt := 27) hx hb dX9_stock_61 (by decide) ?_
            exact ih6 (t + 1) H locs ls (by omega) hM hS (by omega) (lv_sub hl [0, 1, 2, 3] rfl)
    exact loop6 ((nT M - 0) + 1) 0 H locs ls (by omega) hM hS (by omega) (lv_sub hl [0, 1, 2, 3] rfl)
set_option maxHeartbeats 4000000 in
set_option maxRecDepth 100000 in
theorem c9_stockByPicks (l : Launch) (G : gG) (ma : Nat → Nat) (M : MS) (D : mD) (g : Int32) (hI : mI ma) (hcnt : CNT M) : Met l yX9_stockByPicks (wB yX9_stockByPicks cX9_stockByPicks 2 (some .int)) (rmL 2 0 0) (va_Pc [.ref (ma 0), .int g] (mB G ma M D)) (mQi G ma none (fun r M' => r = sbpR M g ∧ M' = thr M (gT g))) 0 0 (mA ma) := by
  refine st_N (own := RX9) (by decide +kernel) rfl (Nat.le_of_ble_eq_true rfl) ?_
  intro p e s m below meth c ls args Q hQ hC hr hlk hnm hl hP
  obtain ⟨hM, hK⟩ := hP
  have hx := hC.1
  have hb := hC.2.1
  have hl : lv_has ls 2 [(0, .ref (ma 0)), (1, .int g)] := hl
  have hS : va_S (mA ma) s.heap s.heap [] := va_S.rf
  obtain ⟨H, locs, hHe, hLe⟩ : ∃ (H : Heap) (locs : List Loc), H = s.heap ∧ locs = [] := ⟨_, _, rfl, rfl⟩
  rw [← hHe] at hM
  have hS : va_S (mA ma) s.heap H locs := by rw [hHe, hLe]; exact va_S.rf
  suffices hgo : W p l e (rmL 2 0 0) s m args below meth c H locs 0 0 Q (F0 m 0 ls []) by
    rw [hHe, hLe] at hgo
    exact hgo
  clear hHe hLe
  have h6 := hcnt.R6
  have h3 := hcnt.S3
  have h16 := hcnt.T16
  have h10 := hcnt.O10
  refine lv_aload_n hx hb dX9_stockByPicks_0 rfl (lv_at hl 0 rfl) ?_
  refine lv_iload_n hx hb dX9_stockByPicks_1 rfl (lv_at hl 1 rfl) ?_
  refine lv_bipush (v := 6) hx hb dX9_stockByPicks_2 (by decide) ?_
  refine cl_p (run_S hC (c9_isIn l g 6) (As := [.int g, .int 6]) (rest := [.ref (ma 0)]) rfl rfl ml_X9_99 sm_X9_isIn ini_X9 cd_X9_isIn na_X9_isIn tB_blind (fun _ _ _ => trivial) hl.1 (Nat.le_of_ble_eq_true rfl) ⟨Nat.le_of_ble_eq_true rfl, Nat.le_of_ble_eq_true rfl⟩ ⟨Nat.le_refl _, Nat.le_refl _⟩ rfl dX9_stockByPicks_4) ?_
  refine lb_eq (tgt := 14) (b := (inB g 6)) hx hb dX9_stockByPicks_7 (by decide) (fun c_1t => ?_) (fun c_1f => ?_)
  · refine lv_iconst (v := 1) hx hb dX9_stockByPicks_14 (by decide) ?_
    refine mcl_i (run_V hC (c9_holds l G ma M D 1 hI) (As := [.int 1]) (rest := []) rfl rfl ml_X9_140 im_X9_holds se_X9_holds ini_X9 cd_X9_holds ⟨rfl, na_X9_holds⟩ mB_blind (mr_recv hK hM) (mr_B hK hM) hl.1 (Nat.le_of_ble_eq_true rfl) ⟨Nat.le_of_ble_eq_true rfl, Nat.le_of_ble_eq_true rfl⟩ ⟨Nat.le_refl _, Nat.le_refl _⟩ rfl dX9_stockByPicks_15) hS (fun _ h => h) (fun r2 M2 H locs hp2 hM hS => ?_)
    obtain ⟨hr2, hm2⟩ := hp2
    rw [hm2] at hM
    refine top_i (y := 0) (hr2.trans (by decide)) ?_
    refine lv_if_eq (tgt := 37) hx hb dX9_stockByPicks_18 (by decide) (fun _ => ?_) (fun c => absurd c (by decide))
    refine lv_iconst (v := 0) hx hb dX9_stockByPicks_37 (by decide) ?_
    subst hQ
    exact rt_mi hx hb hr hlk hM.none hS  (by simp [sbpR, gT, thr, oI_none, oI_some, c_1t]) dX9_stockByPicks_38
  · obtain ⟨j_g, hlt_g, rfl⟩ := inB_of (n := 6) (by decide) c_1f
    have hix_g := ix_nI (n := j_g) (by omega)
    refine lv_iconst (v := 0) hx hb dX9_stockByPicks_10 (by decide) ?_
    refine lv_goto (tgt := 15) hx hb dX9_stockByPicks_11 (by decide) ?_
    refine mcl_i (run_V hC (c9_holds l G ma M D 0 hI) (As := [.int 0]) (rest := []) rfl rfl ml_X9_140 im_X9_holds se_X9_holds ini_X9 cd_X9_holds ⟨rfl, na_X9_holds⟩ mB_blind (mr_recv hK hM) (mr_B hK hM) hl.1 (Nat.le_of_ble_eq_true rfl) ⟨Nat.le_of_ble_eq_true rfl, Nat.le_of_ble_eq_true rfl⟩ ⟨Nat.le_refl _, Nat.le_refl _⟩ rfl dX9_stockByPicks_15) hS (fun _ h => h) (fun r4 M4 H locs hp4 hM hS => ?_)
    obtain ⟨hr4, hm4⟩ := hp4
    rw [hm4] at hM
    refine top_i (y := 1) (hr4.trans (by decide)) ?_
    refine lv_if_eq (tgt := 37) hx hb dX9_stockByPicks_18 (by decide) (fun c => absurd c (by decide)) (fun _ => ?_)
    refine lv_aload_n hx hb dX9_stockByPicks_21 rfl (lv_at hl 0 rfl) ?_
    refine ms_get hC hK hM 32 (by decide) fl_X9_74 rfl (v := .ref (ma 32)) rfl (fun q => rfl) dX9_stockByPicks_22 ?_
    refine lv_iload_n hx hb dX9_stockByPicks_25 rfl (lv_at hl 1 rfl) ?_
    refine ms_ild hC hK hM 32 (i := j_g) (show j_g < 6 from by omega) (by decide) rfl rfl (v := M 32 j_g) rfl dX9_stockByPicks_26 ?_
    refine lv_aload_n hx hb dX9_stockByPicks_27 rfl (lv_at hl 0 rfl) ?_
    refine ms_get hC hK hM 33 (by decide) fl_X9_77 rfl (v := .ref (ma 33)) rfl (fun q => rfl) dX9_stockByPicks_28 ?_
    refine lv_iload_n hx hb dX9_stockByPicks_31 rfl (lv_at hl 1 rfl) ?_
    refine ms_ild hC hK hM 33 (i := j_g) (show j_g < 6 from by omega) (by decide) rfl rfl (v := M 33 j_g) rfl dX9_stockByPicks_32 ?_
    refine lv_isub hx hb dX9_stockByPicks_33 ?_
    refine lv_goto (tgt := 38) hx hb dX9_stockByPicks_34 (by decide) ?_
    subst hQ
    exact rt_mi hx hb hr hlk hM.none hS  (by simp [sbpR, gT, thr, oI_none, oI_some, c_1f, hix_g]) dX9_stockByPicks_38
set_option maxHeartbeats 4000000 in
set_option maxRecDepth 100000 in
theorem c9_pickedFrom (l : Launch) (G : gG) (ma : Nat → Nat) (M : MS) (D : mD) (i : Int32) (hI : mI ma) (hpk : M 34 0 = nI (nP M)) (hpl : nP M ≤ 1500) : Met l yX9_pickedFrom (wB yX9_pickedFrom cX9_pickedFrom 2 (some .int)) (rmL 3 0 0) (va_Pc [.ref (ma 0), .int i] (mB G ma M D)) (mQi G ma none (fun r M' => r = pckR M 35 i ∧ M' = thr M (pT M i))) 0 0 (mA ma) := by
  refine st_N (own := RX9) (by decide +kernel) rfl (Nat.le_of_ble_eq_true rfl) ?_
  intro p e s m below meth c ls args Q hQ hC hr hlk hnm hl hP
  obtain ⟨hM, hK⟩ := hP
  have hx := hC.1
  have hb := hC.2.1
  have hl : lv_has ls 2 [(0, .ref (ma 0)), (1, .int i)] := hl
  have hS : va_S (mA ma) s.heap s.heap [] := va_S.rf
  obtain ⟨H, locs, hHe, hLe⟩ : ∃ (H : Heap) (locs : List Loc), H = s.heap ∧ locs = [] := ⟨_, _, rfl, rfl⟩
  rw [← hHe] at hM
  have hS : va_S (mA ma) s.heap H locs := by rw [hHe, hLe]; exact va_S.rf
  suffices hgo : W p l e (rmL 3 0 0) s m args below meth c H locs 0 0 Q (F0 m 0 ls []) by
    rw [hHe, hLe] at hgo
    exact hgo
  clear hHe hLe
  refine lv_aload_n hx hb dX9_pickedFrom_0 rfl (lv_at hl 0 rfl) ?_
  refine lv_iload_n hx hb dX9_pickedFrom_1 rfl (lv_at hl 1 rfl) ?_
  refine mcl_i (run_V hC (c9_isPick l G ma M D i hI hpk hpl) (As := [.int i]) (rest := []) rfl rfl ml_X9_247 im_X9_isPick se_X9_isPick ini_X9 cd_X9_isPick ⟨rfl, na_X9_isPick⟩ mB_blind (mr_recv hK hM) (mr_B hK hM) hl.1 (Nat.le_of_ble_eq_true rfl) ⟨Nat.le_of_ble_eq_true rfl, Nat.le_of_ble_eq_true rfl⟩ ⟨Nat.le_refl _, Nat.le_refl _⟩ rfl dX9_pickedFrom_2) hS (fun _ h => h) (fun r1 M1 H locs hp1 hM hS => ?_)
  obtain ⟨hr1, hm1⟩ := hp1
  rw [hm1] at hM
  refine top_i (y := bI (inB i (nI (nP M)))) hr1 ?_
  refine lb_eq (tgt := 17) (b := (inB i (nI (nP M)))) hx hb dX9_pickedFrom_5 (by decide) (fun c_2t => ?_) (fun c_2f => ?_)
  · refine lv_iconst (v := 0) hx hb dX9_pickedFrom_17 (by decide) ?_
    subst hQ
    exact rt_mi hx hb hr hlk hM.none hS  (by simp [pckR, pT, mset, thr, oI_none, oI_some, c_2t]) dX9_pickedFrom_18
  · obtain ⟨j_i, hlt_i, rfl⟩ := inB_of (n := nP M) (by omega) c_2f
    have hix_i := ix_nI (n := j_i) (by omega)
    refine lv_aload_n hx hb dX9_pickedFrom_8 rfl (lv_at hl 0 rfl) ?_
    refine ms_get hC hK hM 35 (by decide) fl_X9_80 rfl (v := .ref (ma 35)) rfl (fun q => rfl) dX9_pickedFrom_9 ?_
    refine lv_iload_n hx hb dX9_pickedFrom_12 rfl (lv_at hl 1 rfl) ?_
    refine ms_ild hC hK hM 35 (i := j_i) (show j_i < 1500 from by omega) (by decide) rfl rfl (v := (thr M (pT M (nI j_i))) 35 j_i) rfl dX9_pickedFrom_13 ?_
    refine lv_goto (tgt := 18) hx hb dX9_pickedFrom_14 (by decide) ?_
    subst hQ
    exact rt_mi hx hb hr hlk hM.none hS  (by simp [pckR, pT, mset, thr, oI_none, oI_some, c_2f, hix_i]) dX9_pickedFrom_18
set_option maxHeartbeats 4000000 in
set_option maxRecDepth 100000 in
theorem c9_pickedFor (l : Launch) (G : gG) (ma : Nat → Nat) (M : MS) (D : mD) (i : Int32) (hI : mI ma) (hpk : M 34 0 = nI (nP M)) (hpl : nP M ≤ 1500) : Met l yX9_pickedFor (wB yX9_pickedFor cX9_pickedFor 2 (some .int)) (rmL 3 0 0) (va_Pc [.ref (ma 0), .int i] (mB G ma M D)) (mQi G ma none (fun r M' => r = pckR M 36 i ∧ M' = thr M (pT M i))) 0 0 (mA ma) := by
  refine st_N (own := RX9) (by decide +kernel) rfl (Nat.le_of_ble_eq_true rfl) ?_
  intro p e s m below meth c ls args Q hQ hC hr hlk hnm hl hP
  obtain ⟨hM, hK⟩ := hP
  have hx := hC.1
  have hb := hC.2.1
  have hl : lv_has ls 2 [(0, .ref (ma 0)), (1, .int i)] := hl
  have hS : va_S (mA ma) s.heap s.heap [] := va_S.rf
  obtain ⟨H, locs, hHe, hLe⟩ : ∃ (H : Heap) (locs : List Loc), H = s.heap ∧ locs = [] := ⟨_, _, rfl, rfl⟩
  rw [← hHe] at hM
  have hS : va_S (mA ma) s.heap H locs := by rw [hHe, hLe]; exact va_S.rf
  suffices hgo : W p l e (rmL 3 0 0) s m args below meth c H locs 0 0 Q (F0 m 0 ls []) by
    rw [hHe, hLe] at hgo
    exact hgo
  clear hHe hLe
  refine lv_aload_n hx hb dX9_pickedFor_0 rfl (lv_at hl 0 rfl) ?_
  refine lv_iload_n hx hb dX9_pickedFor_1 rfl (lv_at hl 1 rfl) ?_
  refine mcl_i (run_V hC (c9_isPick l G ma M D i hI hpk hpl) (As := [.int i]) (rest := []) rfl rfl ml_X9_247 im_X9_isPick se_X9_isPick ini_X9 cd_X9_isPick ⟨rfl, na_X9_isPick⟩ mB_blind (mr_recv hK hM) (mr_B hK hM) hl.1 (Nat.le_of_ble_eq_true rfl) ⟨Nat.le_of_ble_eq_true rfl, Nat.le_of_ble_eq_true rfl⟩ ⟨Nat.le_refl _, Nat.le_refl _⟩ rfl dX9_pickedFor_2) hS (fun _ h => h) (fun r1 M1 H locs hp1 hM hS => ?_)
  obtain ⟨hr1, hm1⟩ := hp1
  rw [hm1] at hM
  refine top_i (y := bI (inB i (nI (nP M)))) hr1 ?_
  refine lb_eq (tgt := 17) (b := (inB i (nI (nP M)))) hx hb dX9_pickedFor_5 (by decide) (fun c_2t => ?_) (fun c_2f => ?_)
  · refine lv_iconst (v := 0) hx hb dX9_pickedFor_17 (by decide) ?_
    subst hQ
    exact rt_mi hx hb hr hlk hM.none hS  (by simp [pckR, pT, mset, thr, oI_none, oI_some, c_2t]) dX9_pickedFor_18
  · obtain ⟨j_i, hlt_i, rfl⟩ := inB_of (n := nP M) (by omega) c_2f
    have hix_i := ix_nI (n := j_i) (by omega)
    refine lv_aload_n hx hb dX9_pickedFor_8 rfl (lv_at hl 0 rfl) ?_
    refine ms_get hC hK hM 36 (by decide) fl_X9_83 rfl (v := .ref (ma 36)) rfl (fun q => rfl) dX9_pickedFor_9 ?_
    refine lv_iload_n hx hb dX9_pickedFor_12 rfl (lv_at hl 1 rfl) ?_
    refine ms_ild hC hK hM 36 (i := j_i) (show j_i < 1500 from by omega) (by decide) rfl rfl (v := (thr M (pT M (nI j_i))) 36 j_i) rfl dX9_pickedFor_13 ?_
    refine lv_goto (tgt := 18) hx hb dX9_pickedFor_14 (by decide) ?_
    subst hQ
    exact rt_mi hx hb hr hlk hM.none hS  (by simp [pckR, pT, mset, thr, oI_none, oI_some, c_2f, hix_i]) dX9_pickedFor_18
set_option maxHeartbeats 4000000 in
set_option maxRecDepth 100000 in
theorem c9_pickedIn (l : Launch) (G : gG) (ma : Nat → Nat) (M : MS) (D : mD) (i : Int32) (hI : mI ma) (hpk : M 34 0 = nI (nP M)) (hpl : nP M ≤ 1500) : Met l yX9_pickedIn (wB yX9_pickedIn cX9_pickedIn 2 (some .int)) (rmL 3 0 0) (va_Pc [.ref (ma 0), .int i] (mB G ma M D)) (mQi G ma none (fun r M' => r = pckR M 37 i ∧ M' = thr M (pT M i))) 0 0 (mA ma) := by
  refine st_N (own := RX9) (by decide +kernel) rfl (Nat.le_of_ble_eq_true rfl) ?_
  intro p e s m below meth c ls args Q hQ hC hr hlk hnm hl hP
  obtain ⟨hM, hK⟩ := hP
  have hx := hC.1
  have hb := hC.2.1
  have hl : lv_has ls 2 [(0, .ref (ma 0)), (1, .int i)] := hl
  have hS : va_S (mA ma) s.heap s.heap [] := va_S.rf
  obtain ⟨H, locs, hHe, hLe⟩ : ∃ (H : Heap) (locs : List Loc), H = s.heap ∧ locs = [] := ⟨_, _, rfl, rfl⟩
  rw [← hHe] at hM
  have hS : va_S (mA ma) s.heap H locs := by rw [hHe, hLe]; exact va_S.rf
  suffices hgo : W p l e (rmL 3 0 0) s m args below meth c H locs 0 0 Q (F0 m 0 ls []) by
    rw [hHe, hLe] at hgo
    exact hgo
  clear hHe hLe
  refine lv_aload_n hx hb dX9_pickedIn_0 rfl (lv_at hl 0 rfl) ?_
  refine lv_iload_n hx hb dX9_pickedIn_1 rfl (lv_at hl 1 rfl) ?_
  refine mcl_i (run_V hC (c9_isPick l G ma M D i hI hpk hpl) (As := [.int i]) (rest := []) rfl rfl ml_X9_247 im_X9_isPick se_X9_isPick ini_X9 cd_X9_isPick ⟨rfl, na_X9_isPick⟩ mB_blind (mr_recv hK hM) (mr_B hK hM) hl.1 (Nat.le_of_ble_eq_true rfl) ⟨Nat.le_of_ble_eq_true rfl, Nat.le_of_ble_eq_true rfl⟩ ⟨Nat.le_refl _, Nat.le_refl _⟩ rfl dX9_pickedIn_2) hS (fun _ h => h) (fun r1 M1 H locs hp1 hM hS => ?_)
  obtain ⟨hr1, hm1⟩ := hp1
  rw [hm1] at hM
  refine top_i (y := bI (inB i (nI (nP M)))) hr1 ?_
  refine lb_eq (tgt := 17) (b := (inB i (nI (nP M)))) hx hb dX9_pickedIn_5 (by decide) (fun c_2t => ?_) (fun c_2f => ?_)
  · refine lv_iconst (v := 0) hx hb dX9_pickedIn_17 (by decide) ?_
    subst hQ
    exact rt_mi hx hb hr hlk hM.none hS  (by simp [pckR, pT, mset, thr, oI_none, oI_some, c_2t]) dX9_pickedIn_18
  · obtain ⟨j_i, hlt_i, rfl⟩ := inB_of (n := nP M) (by omega) c_2f
    have hix_i := ix_nI (n := j_i) (by omega)
    refine lv_aload_n hx hb dX9_pickedIn_8 rfl (lv_at hl 0 rfl) ?_
    refine ms_get hC hK hM 37 (by decide) fl_X9_86 rfl (v := .ref (ma 37)) rfl (fun q => rfl) dX9_pickedIn_9 ?_
    refine lv_iload_n hx hb dX9_pickedIn_12 rfl (lv_at hl 1 rfl) ?_
    refine ms_ild hC hK hM 37 (i := j_i) (show j_i < 1500 from by omega) (by decide) rfl rfl (v := (thr M (pT M (nI j_i))) 37 j_i) rfl dX9_pickedIn_13 ?_
    refine lv_goto (tgt := 18) hx hb dX9_pickedIn_14 (by decide) ?_
    subst hQ
    exact rt_mi hx hb hr hlk hM.none hS  (by simp [pckR, pT, mset, thr, oI_none, oI_some, c_2f, hix_i]) dX9_pickedIn_18
