theorem na_X9_init : nArgs yX9_init 0 := ⟨by decide, by decide, by decide +kernel⟩
theorem na_X9_thrown : nArgs yX9_thrown 0 := ⟨by decide, by decide, by decide +kernel⟩
theorem na_X9_wall : nArgs yX9_wall 1 := ⟨by decide, by decide, by decide +kernel⟩
theorem na_X9_isCell : nArgs yX9_isCell 1 := ⟨by decide, by decide, by decide +kernel⟩
theorem na_X9_isIn : nArgs yX9_isIn 2 := ⟨by decide, by decide, by decide +kernel⟩
theorem na_X9_homeOf : nArgs yX9_homeOf 1 := ⟨by decide, by decide, by decide +kernel⟩
theorem na_X9_stationAt : nArgs yX9_stationAt 1 := ⟨by decide, by decide, by decide +kernel⟩
theorem na_X9_robotAt : nArgs yX9_robotAt 1 := ⟨by decide, by decide, by decide +kernel⟩
theorem na_X9_holds : nArgs yX9_holds 1 := ⟨by decide, by decide, by decide +kernel⟩
theorem na_X9_setClosed : nArgs yX9_setClosed 2 := ⟨by decide, by decide, by decide +kernel⟩
theorem na_X9_distance : nArgs yX9_distance 2 := ⟨by decide, by decide, by decide +kernel⟩
theorem na_X9_distanceOf : nArgs yX9_distanceOf 2 := ⟨by decide, by decide, by decide +kernel⟩
theorem na_X9_lays : nArgs yX9_lays 2 := ⟨by decide, by decide, by decide +kernel⟩
theorem na_X9_isOpen : nArgs yX9_isOpen 1 := ⟨by decide, by decide, by decide +kernel⟩
theorem na_X9_neighbour : nArgs yX9_neighbour 2 := ⟨by decide, by decide, by decide +kernel⟩
theorem na_X9_nearest : nArgs yX9_nearest 1 := ⟨by decide, by decide, by decide +kernel⟩
theorem na_X9_addStation : nArgs yX9_addStation 1 := ⟨by decide, by decide, by decide +kernel⟩
theorem na_X9_addTray : nArgs yX9_addTray 3 := ⟨by decide, by decide, by decide +kernel⟩
theorem na_X9_fill : nArgs yX9_fill 2 := ⟨by decide, by decide, by decide +kernel⟩
theorem na_X9_isTray : nArgs yX9_isTray 1 := ⟨by decide, by decide, by decide +kernel⟩
theorem na_X9_robotWith : nArgs yX9_robotWith 2 := ⟨by decide, by decide, by decide +kernel⟩
theorem na_X9_addOrder : nArgs yX9_addOrder 0 := ⟨by decide, by decide, by decide +kernel⟩
theorem na_X9_addLine : nArgs yX9_addLine 3 := ⟨by decide, by decide, by decide +kernel⟩
theorem na_X9_claim : nArgs yX9_claim 3 := ⟨by decide, by decide, by decide +kernel⟩
theorem na_X9_isLine : nArgs yX9_isLine 2 := ⟨by decide, by decide, by decide +kernel⟩
theorem na_X9_giveUp : nArgs yX9_giveUp 2 := ⟨by decide, by decide, by decide +kernel⟩
theorem na_X9_becomes : nArgs yX9_becomes 2 := ⟨by decide, by decide, by decide +kernel⟩
theorem na_X9_left : nArgs yX9_left 2 := ⟨by decide, by decide, by decide +kernel⟩
theorem na_X9_claimant : nArgs yX9_claimant 2 := ⟨by decide, by decide, by decide +kernel⟩
theorem na_X9_amount : nArgs yX9_amount 1 := ⟨by decide, by decide, by decide +kernel⟩
theorem na_X9_trayCell : nArgs yX9_trayCell 1 := ⟨by decide, by decide, by decide +kernel⟩
theorem na_X9_addRobot : nArgs yX9_addRobot 2 := ⟨by decide, by decide, by decide +kernel⟩
theorem na_X9_die : nArgs yX9_die 1 := ⟨by decide, by decide, by decide +kernel⟩
theorem na_X9_isRobot : nArgs yX9_isRobot 1 := ⟨by decide, by decide, by decide +kernel⟩
theorem na_X9_repair : nArgs yX9_repair 1 := ⟨by decide, by decide, by decide +kernel⟩
theorem na_X9_robotIn : nArgs yX9_robotIn 1 := ⟨by decide, by decide, by decide +kernel⟩
theorem na_X9_cellOf : nArgs yX9_cellOf 1 := ⟨by decide, by decide, by decide +kernel⟩
theorem na_X9_state : nArgs yX9_state 1 := ⟨by decide, by decide, by decide +kernel⟩
theorem na_X9_trayOf : nArgs yX9_trayOf 1 := ⟨by decide, by decide, by decide +kernel⟩
theorem na_X9_asked : nArgs yX9_asked 1 := ⟨by decide, by decide, by decide +kernel⟩
theorem na_X9_tick : nArgs yX9_tick 1 := ⟨by decide, by decide, by decide +kernel⟩
theorem na_X9_passes : nArgs yX9_passes 0 := ⟨by decide, by decide, by decide +kernel⟩
theorem na_X9_picksFrom : nArgs yX9_picksFrom 1 := ⟨by decide, by decide, by decide +kernel⟩
theorem na_X9_serves : nArgs yX9_serves 1 := ⟨by decide, by decide, by decide +kernel⟩
theorem na_X9_hasRobot : nArgs yX9_hasRobot 1 := ⟨by decide, by decide, by decide +kernel⟩
theorem na_X9_sends : nArgs yX9_sends 2 := ⟨by decide, by decide, by decide +kernel⟩
theorem na_X9_trayFor : nArgs yX9_trayFor 2 := ⟨by decide, by decide, by decide +kernel⟩
theorem na_X9_robotFor : nArgs yX9_robotFor 1 := ⟨by decide, by decide, by decide +kernel⟩
theorem na_X9_asksFor : nArgs yX9_asksFor 1 := ⟨by decide, by decide, by decide +kernel⟩
theorem na_X9_goalOf : nArgs yX9_goalOf 1 := ⟨by decide, by decide, by decide +kernel⟩
theorem na_X9_resolves : nArgs yX9_resolves 0 := ⟨by decide, by decide, by decide +kernel⟩
theorem na_X9_ringOf : nArgs yX9_ringOf 1 := ⟨by decide, by decide, by decide +kernel⟩
theorem na_X9_nextOf : nArgs yX9_nextOf 1 := ⟨by decide, by decide, by decide +kernel⟩
theorem na_X9_turns : nArgs yX9_turns 1 := ⟨by decide, by decide, by decide +kernel⟩
theorem na_X9_moves : nArgs yX9_moves 2 := ⟨by decide, by decide, by decide +kernel⟩
theorem na_X9_isAbove : nArgs yX9_isAbove 2 := ⟨by decide, by decide, by decide +kernel⟩
theorem na_X9_yieldsTo : nArgs yX9_yieldsTo 2 := ⟨by decide, by decide, by decide +kernel⟩
theorem na_X9_isAsked : nArgs yX9_isAsked 1 := ⟨by decide, by decide, by decide +kernel⟩
theorem na_X9_stepsAside : nArgs yX9_stepsAside 1 := ⟨by decide, by decide, by decide +kernel⟩
theorem na_X9_goes : nArgs yX9_goes 0 := ⟨by decide, by decide, by decide +kernel⟩
theorem na_X9_arrives : nArgs yX9_arrives 1 := ⟨by decide, by decide, by decide +kernel⟩
theorem na_X9_time : nArgs yX9_time 0 := ⟨by decide, by decide, by decide +kernel⟩
theorem na_X9_steps : nArgs yX9_steps 0 := ⟨by decide, by decide, by decide +kernel⟩
theorem na_X9_rings : nArgs yX9_rings 0 := ⟨by decide, by decide, by decide +kernel⟩
theorem na_X9_yields : nArgs yX9_yields 0 := ⟨by decide, by decide, by decide +kernel⟩
theorem na_X9_knots : nArgs yX9_knots 0 := ⟨by decide, by decide, by decide +kernel⟩
theorem na_X9_stock : nArgs yX9_stock 1 := ⟨by decide, by decide, by decide +kernel⟩
theorem na_X9_stockByPicks : nArgs yX9_stockByPicks 1 := ⟨by decide, by decide, by decide +kernel⟩
theorem na_X9_picks : nArgs yX9_picks 0 := ⟨by decide, by decide, by decide +kernel⟩
theorem na_X9_pickedFrom : nArgs yX9_pickedFrom 1 := ⟨by decide, by decide, by decide +kernel⟩
theorem na_X9_isPick : nArgs yX9_isPick 1 := ⟨by decide, by decide, by decide +kernel⟩
theorem na_X9_pickedFor : nArgs yX9_pickedFor 1 := ⟨by decide, by decide, by decide +kernel⟩
theorem na_X9_pickedIn : nArgs yX9_pickedIn 1 := ⟨by decide, by decide, by decide +kernel⟩
set_option maxHeartbeats 4000000 in
set_option maxRecDepth 100000 in
theorem c9_thrown (l : Launch) (G : gG) (ma : Nat → Nat) (M : MS) (D : mD) : Met l yX9_thrown (wB yX9_thrown cX9_thrown 1 (some .int)) (rmL 0 0 0) (va_Pc [.ref (ma 0)] (mB G ma M D)) (k2_QcV (.int (M 0 0))) 0 0 fN := by
  refine st_N (own := RX9) (by decide +kernel) rfl (Nat.le_of_ble_eq_true rfl) ?_
  intro p e s m below meth c ls args Q hQ hC hr hlk hnm hl hP
  obtain ⟨hM, hK⟩ := hP
  have hx := hC.1
  have hb := hC.2.1
  have hl : lv_has ls 1 [(0, .ref (ma 0))] := hl
  refine lv_aload_n hx hb dX9_thrown_0 rfl (lv_at hl 0 rfl) ?_
  refine ms_get hC hK hM 0 (by decide) fl_X9_95 rfl (v := .int (M 0 0)) rfl (fun q => rfl) dX9_thrown_1 ?_
  subst hQ
  exact rt_i hx hb hr hlk (rfl) dX9_thrown_4
set_option maxHeartbeats 4000000 in
set_option maxRecDepth 100000 in
theorem c9_isIn (l : Launch) (v : Int32) (many : Int32) : Met l yX9_isIn (wB yX9_isIn cX9_isIn 2 (some .boolean)) (rmL 0 0 0) (va_Pc [.int v, .int many] (fun _ => True)) (k2_QcV (.int (bI (inB v many)))) 0 0 fN := by
  refine st_N (own := RX9) (by decide +kernel) rfl (Nat.le_of_ble_eq_true rfl) ?_
  intro p e s m below meth c ls args Q hQ hC hr hlk hnm hl hP
  have hx := hC.1
  have hb := hC.2.1
  have hl : lv_has ls 2 [(0, .int v), (1, .int many)] := hl
  refine lv_iload_n hx hb dX9_isIn_0 rfl (lv_at hl 0 rfl) ?_
  refine lv_if_lt (tgt := 13) hx hb dX9_isIn_1 (by decide) (fun c_1t => ?_) (fun c_1f => ?_)
  · refine lv_iconst (v := 0) hx hb dX9_isIn_13 (by decide) ?_
    subst hQ
    exact rt_z hx hb hr hlk (by simp [inB, bI, c_1t]) dX9_isIn_14
  · refine lv_iload_n hx hb dX9_isIn_4 rfl (lv_at hl 0 rfl) ?_
    refine lv_iload_n hx hb dX9_isIn_5 rfl (lv_at hl 1 rfl) ?_
    refine lv_icmp_ge (tgt := 13) hx hb dX9_isIn_6 (by decide) (fun c_2t => ?_) (fun c_2f => ?_)
    · refine lv_iconst (v := 0) hx hb dX9_isIn_13 (by decide) ?_
      subst hQ
      exact rt_z hx hb hr hlk (by simp [inB, bI, c_1f, c_2t]) dX9_isIn_14
    · refine lv_iconst (v := 1) hx hb dX9_isIn_9 (by decide) ?_
      refine lv_goto (tgt := 14) hx hb dX9_isIn_10 (by decide) ?_
      subst hQ
      exact rt_z hx hb hr hlk (by simp [inB, bI, c_1f, c_2f]) dX9_isIn_14
set_option maxHeartbeats 4000000 in
set_option maxRecDepth 100000 in
theorem c9_isCell (l : Launch) (v : Int32) : Met l yX9_isCell (wB yX9_isCell cX9_isCell 1 (some .boolean)) (rmL 1 0 0) (va_Pc [.int v] (fun _ => True)) (k2_QcV (.int (bI (inB v 64)))) 0 0 fN := by
  refine st_N (own := RX9) (by decide +kernel) rfl (Nat.le_of_ble_eq_true rfl) ?_
  intro p e s m below meth c ls args Q hQ hC hr hlk hnm hl hP
  have hx := hC.1
  have hb := hC.2.1
  have hl : lv_has ls 1 [(0, .int v)] := hl
  refine lv_iload_n hx hb dX9_isCell_0 rfl (lv_at hl 0 rfl) ?_
  refine lv_bipush (v := 64) hx hb dX9_isCell_1 (by decide) ?_
  refine cl_p (run_S hC (c9_isIn l v 64) (As := [.int v, .int 64]) (rest := []) rfl rfl ml_X9_99 sm_X9_isIn ini_X9 cd_X9_isIn na_X9_isIn tB_blind (fun _ _ _ => trivial) hl.1 (Nat.le_of_ble_eq_true rfl) ⟨Nat.le_of_ble_eq_true rfl, Nat.le_of_ble_eq_true rfl⟩ ⟨Nat.le_refl _, Nat.le_refl _⟩ rfl dX9_isCell_3) ?_
  subst hQ
  exact rt_z hx hb hr hlk (rfl) dX9_isCell_6
set_option maxHeartbeats 4000000 in
set_option maxRecDepth 100000 in
theorem c9_holds (l : Launch) (G : gG) (ma : Nat → Nat) (M : MS) (D : mD) (place : Int32) (hI : mI ma) : Met l yX9_holds (wB yX9_holds cX9_holds 2 (some .boolean)) (rmL 0 0 0) (va_Pc [.ref (ma 0), .int place] (mB G ma M D)) (mQi G ma none (fun r M' => r = bI (decide (place = 0)) ∧ M' = mset M 0 0 place)) 0 0 (mA ma) := by
  refine st_N (own := RX9) (by decide +kernel) rfl (Nat.le_of_ble_eq_true rfl) ?_
  intro p e s m below meth c ls args Q hQ hC hr hlk hnm hl hP
  obtain ⟨hM, hK⟩ := hP
  have hx := hC.1
  have hb := hC.2.1
  have hl : lv_has ls 2 [(0, .ref (ma 0)), (1, .int place)] := hl
  have hS : va_S (mA ma) s.heap s.heap [] := va_S.rf
  obtain ⟨H, locs, hHe, hLe⟩ : ∃ (H : Heap) (locs : List Loc), H = s.heap ∧ locs = [] := ⟨_, _, rfl, rfl⟩
  rw [← hHe] at hM
  have hS : va_S (mA ma) s.heap H locs := by rw [hHe, hLe]; exact va_S.rf
  suffices hgo : W p l e (rmL 0 0 0) s m args below meth c H locs 0 0 Q (F0 m 0 ls []) by
    rw [hHe, hLe] at hgo
    exact hgo
  clear hHe hLe
  refine lv_aload_n hx hb dX9_holds_0 rfl (lv_at hl 0 rfl) ?_
  refine lv_iload_n hx hb dX9_holds_1 rfl (lv_at hl 1 rfl) ?_
  refine ms_put hC hK hI hM hS mA_0 0 (by decide) rfl fl_X9_95 rfl rfl rfl rfl dX9_holds_2 (fun H locs hM hS => ?_)
  refine lv_iload_n hx hb dX9_holds_5 rfl (lv_at hl 1 rfl) ?_
  refine lv_if_ne (tgt := 13) hx hb dX9_holds_6 (by decide) (fun c_1t => ?_) (fun c_1f => ?_)
  · refine lv_iconst (v := 0) hx hb dX9_holds_13 (by decide) ?_
    subst hQ
    exact rt_mz false hx hb hr hlk hM.none hS rfl  (⟨by simp [bI, c_1t], rfl⟩) dX9_holds_14
  · refine lv_iconst (v := 1) hx hb dX9_holds_9 (by decide) ?_
    refine lv_goto (tgt := 14) hx hb dX9_holds_10 (by decide) ?_
    subst hQ
    exact rt_mz true hx hb hr hlk hM.none hS rfl  (⟨by simp [bI, c_1f], rfl⟩) dX9_holds_14
set_option maxHeartbeats 4000000 in
set_option maxRecDepth 100000 in
theorem c9_robotAt (l : Launch) (G : gG) (ma : Nat → Nat) (M : MS) (D : mD) (x : Int32) (hcnt : CNT M) : Met l yX9_robotAt (wB yX9_robotAt cX9_robotAt 4 (some .int)) (rmL 0 0 0) (va_Pc [.ref (ma 0), .int x] (mB G ma M D)) (k2_QcV (.int (oI (rbA M x)))) 0 0 fN := by
  refine st_N (own := RX9) (by decide +kernel) rfl (Nat.le_of_ble_eq_true rfl) ?_
  intro p e s m below meth c ls args Q hQ hC hr hlk hnm hl hP
  obtain ⟨hM, hK⟩ := hP
  have hx := hC.1
  have hb := hC.2.1
  have hl : lv_has ls 4 [(0, .ref (ma 0)), (1, .int x)] := hl
  have h6 := hcnt.R6
  refine lv_iconst (v := (-1)) hx hb dX9_robotAt_0 (by decide) ?_
  refine lv_istore_n (lv' := [(2, .int (-1)), (0, .ref (ma 0)), (1, .int x)]) hx hb dX9_robotAt_1 rfl hl (by decide) rfl (fun ls hl => ?_)
  refine lv_iconst (v := 0) hx hb dX9_robotAt_2 (by decide) ?_
  refine lv_istore_n (lv' := [(3, .int 0), (2, .int (-1)), (0, .ref (ma 0)), (1, .int x)]) hx hb dX9_robotAt_3 rfl hl (by decide) rfl (fun ls hl => ?_)
  have loop1 : ∀ (n : Nat) (k : Nat) (r : Option Nat) (ls : Array Slot) (hk : k ≤ nR M) (hrr : r = lastE (M 18) x k), nR M - k < n → lv_has ls 4 [(3, .int (nI k)), (2, .int (oI r)), (0, .ref (ma 0)), (1, .int x)] → W p l e (rmL 0 0 0) s m args below meth c s.heap [] 0 0 Q (F0 m 4 ls []) := by
    intro n
    induction n with
    | zero => intro k r ls hk hrr hm hl; omega
    | succ n ih1 =>
      intro k r ls hk hrr hm hl
      refine lv_iload_n hx hb dX9_robotAt_4 rfl (lv_at hl 0 rfl) ?_
      refine lv_aload_n hx hb dX9_robotAt_5 rfl (lv_at hl 2 rfl) ?_
      refine ms_get hC hK hM 17 (by decide) fl_X9_103 rfl (v := .int (nI (nR M))) (congrArg Value.int (show M 17 0 = (nI (nR M)) from hcnt.R)) (fun q => rfl) dX9_robotAt_6 ?_
      refine ln_ge (tgt := 34) (a := k) (b := (nR M)) hx hb dX9_robotAt_9 (by decide) rfl rfl (by omega) (by omega) (fun c_2t => ?_) (fun c_2f => ?_)
      · refine lv_iload_n hx hb dX9_robotAt_34 rfl (lv_at hl 1 rfl) ?_
        subst hQ
        exact rt_i hx hb hr hlk (by rw [hrr, show k = nR M by omega]; rfl) dX9_robotAt_35
      · refine lv_aload_n hx hb dX9_robotAt_12 rfl (lv_at hl 2 rfl) ?_
        refine ms_get hC hK hM 18 (by decide) fl_X9_44 rfl (v := .ref (ma 18)) rfl (fun q => rfl) dX9_robotAt_13 ?_
        refine lv_iload_n hx hb dX9_robotAt_16 rfl (lv_at hl 0 rfl) ?_
        refine ms_ild hC hK hM 18 (i := k) (show k < 6 from by omega) (by decide) rfl rfl (v := M 18 k) rfl dX9_robotAt_17 ?_
        refine lv_iload_n hx hb dX9_robotAt_18 rfl (lv_at hl 3 rfl) ?_
        refine lv_icmp_ne (tgt := 26) hx hb dX9_robotAt_19 (by decide) (fun c_3t => ?_) (fun c_3f => ?_)
        · refine lv_iload_n hx hb dX9_robotAt_26 rfl (lv_at hl 1 rfl) ?_
          refine lv_istore_n (lv' := [(2, .int (oI r)), (3, .int (nI k)), (0, .ref (ma 0)), (1, .int x)]) hx hb dX9_robotAt_27 rfl hl (by decide) rfl (fun ls hl => ?_)
          refine lv_iinc (v := nI (k + 1)) (lv' := [(3, .int (nI (k + 1))), (2, .int (oI r)), (0, .ref (ma 0)), (1, .int x)]) hx hb dX9_robotAt_28 hl (k := 1) rfl (nI_inc _) (by decide) rfl (fun ls hl => ?_)
          refine lv_goto (tgt := 4) hx hb dX9_robotAt_31 (by decide) ?_
          exact ih1 (k + 1) r ls (by omega) (hrr.trans (lastE_step_f c_3t).symm) (by omega) (lv_sub hl [0, 1, 2, 3] rfl)
        · refine lv_iload_n hx hb dX9_robotAt_22 rfl (lv_at hl 0 rfl) ?_
          refine lv_goto (tgt := 27) hx hb dX9_robotAt_23 (by decide) ?_
          refine lv_istore_n (lv' := [(2, .int (nI k)), (3, .int (nI k)), (0, .ref (ma 0)), (1, .int x)]) hx hb dX9_robotAt_27 rfl hl (by decide) rfl (fun ls hl => ?_)
          refine lv_iinc (v := nI (k + 1)) (lv' := [(3, .int (nI (k + 1))), (2, .int (nI k)), (0, .ref (ma 0)), (1, .int x)]) hx hb dX9_robotAt_28 hl (k := 1) rfl (nI_inc _) (by decide) rfl (fun ls hl => ?_)
          refine lv_goto (tgt := 4) hx hb dX9_robotAt_31 (by decide) ?_
          exact ih1 (k + 1) (some k) ls (by omega) ((lastE_step_t c_3f).symm) (by omega) (lv_sub hl [0, 1, 2, 3] rfl)
  exact loop1 ((nR M - 0) + 1) 0 none ls (Nat.zero_le _) rfl (by omega) (lv_sub hl [0, 1, 2, 3] rfl)
set_option maxHeartbeats 4000000 in
set_option maxRecDepth 100000 in
theorem c9_stationAt (l : Launch) (G : gG) (ma : Nat → Nat) (M : MS) (D : mD) (x : Int32) (hcnt : CNT M) : Met l yX9_stationAt (wB yX9_stationAt cX9_stationAt 4 (some .int)) (rmL 0 0 0) (va_Pc [.ref (ma 0), .int x] (mB G ma M D)) (k2_QcV (.int (oI (stA M x)))) 0 0 fN := by
  refine st_N (own := RX9) (by decide +kernel) rfl (Nat.le_of_ble_eq_true rfl) ?_
  intro p e s m below meth c ls args Q hQ hC hr hlk hnm hl hP
  obtain ⟨hM, hK⟩ := hP
  have hx := hC.1
  have hb := hC.2.1
  have hl : lv_has ls 4 [(0, .ref (ma 0)), (1, .int x)] := hl
  have h6 := hcnt.S3
  refine lv_iconst (v := (-1)) hx hb dX9_stationAt_0 (by decide) ?_
  refine lv_istore_n (lv' := [(2, .int (-1)), (0, .ref (ma 0)), (1, .int x)]) hx hb dX9_stationAt_1 rfl hl (by decide) rfl (fun ls hl => ?_)
  refine lv_iconst (v := 0) hx hb dX9_stationAt_2 (by decide) ?_
  refine lv_istore_n (lv' := [(3, .int 0), (2, .int (-1)), (0, .ref (ma 0)), (1, .int x)]) hx hb dX9_stationAt_3 rfl hl (by decide) rfl (fun ls hl => ?_)
  have loop1 : ∀ (n : Nat) (k : Nat) (r : Option Nat) (ls : Array Slot) (hk : k ≤ nS M) (hrr : r = lastE (M 5) x k), nS M - k < n → lv_has ls 4 [(3, .int (nI k)), (2, .int (oI r)), (0, .ref (ma 0)), (1, .int x)] → W p l e (rmL 0 0 0) s m args below meth c s.heap [] 0 0 Q (F0 m 4 ls []) := by
    intro n
    induction n with
    | zero => intro k r ls hk hrr hm hl; omega
    | succ n ih1 =>
      intro k r ls hk hrr hm hl
      refine lv_iload_n hx hb dX9_stationAt_4 rfl (lv_at hl 0 rfl) ?_
      refine lv_aload_n hx hb dX9_stationAt_5 rfl (lv_at hl 2 rfl) ?_
      refine ms_get hC hK hM 4 (by decide) fl_X9_106 rfl (v := .int (nI (nS M))) (congrArg Value.int (show M 4 0 = (nI (nS M)) from hcnt.S)) (fun q => rfl) dX9_stationAt_6 ?_
      refine ln_ge (tgt := 34) (a := k) (b := (nS M)) hx hb dX9_stationAt_9 (by decide) rfl rfl (by omega) (by omega) (fun c_2t => ?_) (fun c_2f => ?_)
      · refine lv_iload_n hx hb dX9_stationAt_34 rfl (lv_at hl 1 rfl) ?_
        subst hQ
        exact rt_i hx hb hr hlk (by rw [hrr, show k = nS M by omega]; rfl) dX9_stationAt_35
      · refine lv_aload_n hx hb dX9_stationAt_12 rfl (lv_at hl 2 rfl) ?_
        refine ms_get hC hK hM 5 (by decide) fl_X9_16 rfl (v := .ref (ma 5)) rfl (fun q => rfl) dX9_stationAt_13 ?_
        refine lv_iload_n hx hb dX9_stationAt_16 rfl (lv_at hl 0 rfl) ?_
        refine ms_ild hC hK hM 5 (i := k) (show k < 3 from by omega) (by decide) rfl rfl (v := M 5 k) rfl dX9_stationAt_17 ?_
        refine lv_iload_n hx hb dX9_stationAt_18 rfl (lv_at hl 3 rfl) ?_
        refine lv_icmp_ne (tgt := 26) hx hb dX9_stationAt_19 (by decide) (fun c_3t => ?_) (fun c_3f => ?_)
        · refine lv_iload_n hx hb dX9_stationAt_26 rfl (lv_at hl 1 rfl) ?_
          refine lv_istore_n (lv' := [(2, .int (oI r)), (3, .int (nI k)), (0, .ref (ma 0)), (1, .int x)]) hx hb dX9_stationAt_27 rfl hl (by decide) rfl (fun ls hl => ?_)
          refine lv_iinc (v := nI (k + 1)) (lv' := [(3, .int (nI (k + 1))), (2, .int (oI r)), (0, .ref (ma 0)), (1, .int x)]) hx hb dX9_stationAt_28 hl (k := 1) rfl (nI_inc _) (by decide) rfl (fun ls hl => ?_)
          refine lv_goto (tgt := 4) hx hb dX9_stationAt_31 (by decide) ?_
          exact ih1 (k + 1) r ls (by omega) (hrr.trans (lastE_step_f c_3t).symm) (by omega) (lv_sub hl [0, 1, 2, 3] rfl)
        · refine lv_iload_n hx hb dX9_stationAt_22 rfl (lv_at hl 0 rfl) ?_
          refine lv_goto (tgt := 27) hx hb dX9_stationAt_23 (by decide) ?_
          refine lv_istore_n (lv' := [(2, .int (nI k)), (3, .int (nI k)), (0, .ref (ma 0)), (1, .int x)]) hx hb dX9_stationAt_27 rfl hl (by decide) rfl (fun ls hl => ?_)
          refine lv_iinc (v := nI (k + 1)) (lv' := [(3, .int (nI (k + 1))), (2, .int (nI k)), (0, .ref (ma 0)), (1, .int x)]) hx hb dX9_stationAt_28 hl (k := 1) rfl (nI_inc _) (by decide) rfl (fun ls hl => ?_)
          refine lv_goto (tgt := 4) hx hb dX9_stationAt_31 (by decide) ?_
          exact ih1 (k + 1) (some k) ls (by omega) ((lastE_step_t c_3f).symm) (by omega) (lv_sub hl [0, 1, 2, 3] rfl)
  exact loop1 ((nS M - 0) + 1) 0 none ls (Nat.zero_le _) rfl (by omega) (lv_sub hl [0, 1, 2, 3] rfl)
set_option maxHeartbeats 4000000 in
set_option maxRecDepth 100000 in
theorem c9_homeOf (l : Launch) (G : gG) (ma : Nat → Nat) (M : MS) (D : mD) (x : Int32) (hcnt : CNT M) : Met l yX9_homeOf (wB yX9_homeOf cX9_homeOf 4 (some .int)) (rmL 0 0 0) (va_Pc [.ref (ma 0), .int x] (mB G ma M D)) (k2_QcV (.int (oI (hmA M x)))) 0 0 fN := by
  refine st_N (own := RX9) (by decide +kernel) rfl (Nat.le_of_ble_eq_true rfl) ?_
  intro p e s m below meth c ls args Q hQ hC hr hlk hnm hl hP
  obtain ⟨hM, hK⟩ := hP
  have hx := hC.1
  have hb := hC.2.1
  have hl : lv_has ls 4 [(0, .ref (ma 0)), (1, .int x)] := hl
  have h6 := hcnt.T16
  refine lv_iconst (v := (-1)) hx hb dX9_homeOf_0 (by decide) ?_
  refine lv_istore_n (lv' := [(2, .int (-1)), (0, .ref (ma 0)), (1, .int x)]) hx hb dX9_homeOf_1 rfl hl (by decide) rfl (fun ls hl => ?_)
  refine lv_iconst (v := 0) hx hb dX9_homeOf_2 (by decide) ?_
  refine lv_istore_n (lv' := [(3, .int 0), (2, .int (-1)), (0, .ref (ma 0)), (1, .int x)]) hx hb dX9_homeOf_3 rfl hl (by decide) rfl (fun ls hl => ?_)
  have loop1 : ∀ (n : Nat) (k : Nat) (r : Option Nat) (ls : Array Slot) (hk : k ≤ nT M) (hrr : r = lastE (M 7) x k), nT M - k < n → lv_has ls 4 [(3, .int (nI k)), (2, .int (oI r)), (0, .ref (ma 0)), (1, .int x)] → W p l e (rmL 0 0 0) s m args below meth c s.heap [] 0 0 Q (F0 m 4 ls []) := by
    intro n
    induction n with
    | zero => intro k r ls hk hrr hm hl; omega
    | succ n ih1 =>
      intro k r ls hk hrr hm hl
      refine lv_iload_n hx hb dX9_homeOf_4 rfl (lv_at hl 0 rfl) ?_
      refine lv_aload_n hx hb dX9_homeOf_5 rfl (lv_at hl 2 rfl) ?_
      refine ms_get hC hK hM 6 (by decide) fl_X9_109 rfl (v := .int (nI (nT M))) (congrArg Value.int (show M 6 0 = (nI (nT M)) from hcnt.T)) (fun q => rfl) dX9_homeOf_6 ?_
      refine ln_ge (tgt := 34) (a := k) (b := (nT M)) hx hb dX9_homeOf_9 (by decide) rfl rfl (by omega) (by omega) (fun c_2t => ?_) (fun c_2f => ?_)
      · refine lv_iload_n hx hb dX9_homeOf_34 rfl (lv_at hl 1 rfl) ?_
        subst hQ
        exact rt_i hx hb hr hlk (by rw [hrr, show k = nT M by omega]; rfl) dX9_homeOf_35
      · refine lv_aload_n hx hb dX9_homeOf_12 rfl (lv_at hl 2 rfl) ?_
        refine ms_get hC hK hM 7 (by decide) fl_X9_20 rfl (v := .ref (ma 7)) rfl (fun q => rfl) dX9_homeOf_13 ?_
        refine lv_iload_n hx hb dX9_homeOf_16 rfl (lv_at hl 0 rfl) ?_
        refine ms_ild hC hK hM 7 (i := k) (show k < 16 from by omega) (by decide) rfl rfl (v := M 7 k) rfl dX9_homeOf_17 ?_
        refine lv_iload_n hx hb dX9_homeOf_18 rfl (lv_at hl 3 rfl) ?_
        refine lv_icmp_ne (tgt := 26) hx hb dX9_homeOf_19 (by decide) (fun c_3t => ?_) (fun c_3f => ?_)
        · refine lv_iload_n hx hb dX9_homeOf_26 rfl (lv_at hl 1 rfl) ?_
          refine lv_istore_n (lv' := [(2, .int (oI r)), (3, .int (nI k)), (0, .ref (ma 0)), (1, .int x)]) hx hb dX9_homeOf_27 rfl hl (by decide) rfl (fun ls hl => ?_)
          refine lv_iinc (v := nI (k + 1)) (lv' := [(3, .int (nI (k + 1))), (2, .int (oI r)), (0, .ref (ma 0)), (1, .int x)]) hx hb dX9_homeOf_28 hl (k := 1) rfl (nI_inc _) (by decide) rfl (fun ls hl => ?_)
          refine lv_goto (tgt := 4) hx hb dX9_homeOf_31 (by decide) ?_
          exact ih1 (k + 1) r ls (by omega) (hrr.trans (lastE_step_f c_3t).symm) (by omega) (lv_sub hl [0, 1, 2, 3] rfl)
        · refine lv_iload_n hx hb dX9_homeOf_22 rfl (lv_at hl 0 rfl) ?_
          refine lv_goto (tgt := 27) hx hb dX9_homeOf_23 (by decide) ?_
          refine lv_istore_n (lv' := [(2, .int (nI k)), (3, .int (nI k)), (0, .ref (ma 0)), (1, .int x)]) hx hb dX9_homeOf_27 rfl hl (by decide) rfl (fun ls hl => ?_)
          refine lv_iinc (v := nI (k + 1)) (lv' := [(3, .int (nI (k + 1))), (2, .int (nI k)), (0, .ref (ma 0)), (1, .int x)]) hx hb dX9_homeOf_28 hl (k := 1) rfl (nI_inc _) (by decide) rfl (fun ls hl => ?_)
          refine lv_goto (tgt := 4) hx hb dX9_homeOf_31 (by decide) ?_
          exact ih1 (k + 1) (some k) ls (by omega) ((lastE_step_t c_3f).symm) (by omega) (lv_sub hl [0, 1, 2, 3] rfl)
  exact loop1 ((nT M - 0) + 1) 0 none ls (Nat.zero_le _) rfl (by omega) (lv_sub hl [0, 1, 2, 3] rfl)
set_option maxHeartbeats 4000000 in
set_option maxRecDepth 100000 in
theorem c9_isOpen (l : Launch) (G : gG) (ma : Nat → Nat) (M : MS) (D : mD) (j : Nat) (hcnt : CNT M) (hj : j < 64) : Met l yX9_isOpen (wB yX9_isOpen cX9_isOpen 3 (some .boolean)) (rmL 1 0 0) (va_Pc [.ref (ma 0), .int (nI j)] (mB G ma M D)) (k2_QcV (.int (bI (opnB M j)))) 0 0 fN := by
  refine st_N (own := RX9) (by decide +kernel) rfl (Nat.le_of_ble_eq_true rfl) ?_
  intro p e s m below meth c ls args Q hQ hC hr hlk hnm hl hP
  obtain ⟨hM, hK⟩ := hP
  have hx := hC.1
  have hb := hC.2.1
  have hl : lv_has ls 3 [(0, .ref (ma 0)), (1, .int (nI j))] := hl
  refine lv_aload_n hx hb dX9_isOpen_0 rfl (lv_at hl 0 rfl) ?_
  refine lv_iload_n hx hb dX9_isOpen_1 rfl (lv_at hl 1 rfl) ?_
  refine cl_p (run_V hC (c9_robotAt l G ma M D (nI j) hcnt) (As := [.int (nI j)]) (rest := []) rfl rfl ml_X9_112 im_X9_robotAt se_X9_robotAt ini_X9 cd_X9_robotAt ⟨rfl, na_X9_robotAt⟩ mB_blind (mr_recv hK hM) (mr_B hK hM) hl.1 (Nat.le_of_ble_eq_true rfl) ⟨Nat.le_of_ble_eq_true rfl, Nat.le_of_ble_eq_true rfl⟩ ⟨Nat.le_refl _, Nat.le_refl _⟩ rfl dX9_isOpen_2) ?_
  rcases ho1 : rbA M (nI j) with _ | k1
  · refine top_i (y := -1) rfl ?_
    refine lv_istore_n (lv' := [(2, .int (-1)), (0, .ref (ma 0)), (1, .int (nI j))]) hx hb dX9_isOpen_5 rfl hl (by decide) rfl (fun ls hl => ?_)
    refine lv_aload_n hx hb dX9_isOpen_6 rfl (lv_at hl 1 rfl) ?_
    refine ms_get hC hK hM 2 (by decide) fl_X9_7 rfl (v := .ref (ma 2)) rfl (fun q => rfl) dX9_isOpen_7 ?_
    refine lv_iload_n hx hb dX9_isOpen_10 rfl (lv_at hl 2 rfl) ?_
    refine ms_zld hC hK hM 2 (i := j) (show j < 64 from by omega) (by decide) rfl rfl (v := M 2 j) rfl dX9_isOpen_11 ?_
    refine lv_if_ne (tgt := 43) hx hb dX9_isOpen_12 (by decide) (fun c_2t => ?_) (fun c_2f => ?_)
    · refine lv_iconst (v := 0) hx hb dX9_isOpen_43 (by decide) ?_
      subst hQ
      exact rt_z hx hb hr hlk (by simp [opnB, bI, ho1, c_2t]) dX9_isOpen_44
    · refine lv_aload_n hx hb dX9_isOpen_15 rfl (lv_at hl 1 rfl) ?_
      refine ms_get hC hK hM 3 (by decide) fl_X9_13 rfl (v := .ref (ma 3)) rfl (fun q => rfl) dX9_isOpen_16 ?_
      refine lv_iload_n hx hb dX9_isOpen_19 rfl (lv_at hl 2 rfl) ?_
      refine ms_zld hC hK hM 3 (i := j) (show j < 64 from by omega) (by decide) rfl rfl (v := M 3 j) rfl dX9_isOpen_20 ?_
      refine lv_if_ne (tgt := 43) hx hb dX9_isOpen_21 (by decide) (fun c_3t => ?_) (fun c_3f => ?_)
      · refine lv_iconst (v := 0) hx hb dX9_isOpen_43 (by decide) ?_
        subst hQ
        exact rt_z hx hb hr hlk (by simp [opnB, bI, ho1, c_2f, c_3t]) dX9_isOpen_44
      · refine lv_iload_n hx hb dX9_isOpen_24 rfl (lv_at hl 0 rfl) ?_
        refine lv_iconst (v := (-1)) hx hb dX9_isOpen_25 (by decide) ?_
        refine lv_icmp_eq (tgt := 39) hx hb dX9_isOpen_26 (by decide) (fun _ => ?_) (fun c => absurd c (by decide))
        refine lv_iconst (v := 1) hx hb dX9_isOpen_39 (by decide) ?_
        refine lv_goto (tgt := 44) hx hb dX9_isOpen_40 (by decide) ?_
        subst hQ
        exact rt_z hx hb hr hlk (by simp [opnB, bI, ho1, c_2f, c_3f]) dX9_isOpen_44
  · refine top_i (y := nI k1) rfl ?_
    have hk := (lastE_lt ho1).1
    have h6 := hcnt.R6
    refine lv_istore_n (lv' := [(2, .int (nI k1)), (0, .ref (ma 0)), (1, .int (nI j))]) hx hb dX9_isOpen_5 rfl hl (by decide) rfl (fun ls hl => ?_)
    refine lv_aload_n hx hb dX9_isOpen_6 rfl (lv_at hl 1 rfl) ?_
    refine ms_get hC hK hM 2 (by decide) fl_X9_7 rfl (v := .ref (ma 2)) rfl (fun q => rfl) dX9_isOpen_7 ?_
    refine lv_iload_n hx hb dX9_isOpen_10 rfl (lv_at hl 2 rfl) ?_
    refine ms_zld hC hK hM 2 (i := j) (show j < 64 from by omega) (by decide) rfl rfl (v := M 2 j) rfl dX9_isOpen_11 ?_
    refine lv_if_ne (tgt := 43) hx hb dX9_isOpen_12 (by decide) (fun c_5t => ?_) (fun c_5f => ?_)
    · refine lv_iconst (v := 0) hx hb dX9_isOpen_43 (by decide) ?_
      subst hQ
      exact rt_z hx hb hr hlk (by simp [opnB, bI, ho1, c_5t]) dX9_isOpen_44
    · refine lv_aload_n hx hb dX9_isOpen_15 rfl (lv_at hl 1 rfl) ?_
      refine ms_get hC hK hM 3 (by decide) fl_X9_13 rfl (v := .ref (ma 3)) rfl (fun q => rfl) dX9_isOpen_16 ?_
      refine lv_iload_n hx hb dX9_isOpen_19 rfl (lv_at hl 2 rfl) ?_
      refine ms_zld hC hK hM 3 (i := j) (show j < 64 from by omega) (by decide) rfl rfl (v := M 3 j) rfl dX9_isOpen_20 ?_
      refine lv_if_ne (tgt := 43) hx hb dX9_isOpen_21 (by decide) (fun c_6t => ?_) (fun c_6f => ?_)
      · refine lv_iconst (v := 0) hx hb dX9_isOpen_43 (by decide) ?_
        subst hQ
        exact rt_z hx hb hr hlk (by simp [opnB, bI, ho1, c_5f, c_6t]) dX9_isOpen_44
      · refine lv_iload_n hx hb dX9_isOpen_24 rfl (lv_at hl 0 rfl) ?_
        refine lv_iconst (v := (-1)) hx hb dX9_isOpen_25 (by decide) ?_
        refine lv_icmp_eq (tgt := 39) hx hb dX9_isOpen_26 (by decide) (fun c => absurd c (nI_m1 (by omega))) (fun _ => ?_)
        refine lv_aload_n hx hb dX9_isOpen_29 rfl (lv_at hl 1 rfl) ?_
        refine ms_get hC hK hM 20 (by decide) fl_X9_50 rfl (v := .ref (ma 20)) rfl (fun q => rfl) dX9_isOpen_30 ?_
        refine lv_iload_n hx hb dX9_isOpen_33 rfl (lv_at hl 0 rfl) ?_
        refine ms_ild hC hK hM 20 (i := k1) (show k1 < 6 from by omega) (by decide) rfl rfl (v := M 20 k1) rfl dX9_isOpen_34 ?_
        refine lv_iconst (v := 5) hx hb dX9_isOpen_35 (by decide) ?_
        refine lv_icmp_eq (tgt := 43) hx hb dX9_isOpen_36 (by decide) (fun c_8t => ?_) (fun c_8f => ?_)
        · refine lv_iconst (v := 0) hx hb dX9_isOpen_43 (by decide) ?_
          subst hQ
          exact rt_z hx hb hr hlk (by simp [opnB, bI, ho1, c_5f, c_6f, c_8t]) dX9_isOpen_44
        · refine lv_iconst (v := 1) hx hb dX9_isOpen_39 (by decide) ?_
          refine lv_goto (tgt := 44) hx hb dX9_isOpen_40 (by decide) ?_
          subst hQ
          exact rt_z hx hb hr hlk (by simp [opnB, bI, ho1, c_5f, c_6f, c_8f]) dX9_isOpen_44
