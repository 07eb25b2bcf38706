/-! THE CLASS'S METHODS THAT WRITE: the floor, robots that die -/
theorem dw_18 {M : MS} {r : Nat} : dwM M r 18 = M 18 := by
  unfold dwM
  split
  · rfl
  · rfl
def rpX (M : MS) (r : Nat) : Int32 := if M 21 r = -1 then 0 else 4
set_option maxHeartbeats 4000000 in
set_option maxRecDepth 100000 in
theorem cJ_X8_wall (l : Launch) (G : gG) (d0 mi : Nat) (Rf : Nat → Prop) (ja : Nat → Nat → Nat) (M : MS) (E : ES) (j : Nat) (hj : j < 64) (huq18 : uq18 M) (w2 : M 2 j = 0) (w3 : hmA M (nI j) = none) (w4 : stA M (nI j) = none) (w5 : rbA M (nI j) = none) : Met l yX8_wall (wB yX8_wall cX8_wall 2 none) (rmL 6 0 0) (va_Pc [.ref (ja 8 0), .int (nI j)] (jB G d0 mi Rf ja M E)) (va_Qv (S := Unit) (fun _ => True) (fun _ z9 => WJ G d0 Rf ja (mset M 2 j 1) (E) z9.heap) (jA Rf)) 0 0 (jA Rf) := by
  refine st_N (own := RX8) (by decide +kernel) rfl (Nat.le_of_ble_eq_true rfl) ?_
  intro p e s m below meth c ls args Q hQ hC hr hlk hnm hl hP
  obtain ⟨hW, hX, hRf⟩ := hP
  have hK := hX.1
  have hx := hC.1
  have hb := hC.2.1
  have hl : lv_has ls 2 [(0, .ref (ja 8 0)), (1, .int (nI j))] := hl
  obtain ⟨H, locs, hHe, hLe⟩ : ∃ (H : Heap) (locs : List Loc), H = s.heap ∧ locs = [] := ⟨_, _, rfl, rfl⟩
  rw [← hHe] at hW
  have hS : va_S (jA Rf) s.heap H locs := by rw [hHe, hLe]; exact va_S.rf
  suffices hgo : W p l e (rmL 6 0 0) s m args below meth c H locs 0 0 Q (F0 m 0 ls []) by
    rw [hHe, hLe] at hgo
    exact hgo
  clear hHe hLe
  refine lv_iload_n hx hb dX8_wall_0 rfl (lv_at hl 1 rfl) ?_
  refine cl_pv (run_S hC (cJ_X8_requireCell l j (by omega)) (As := [.int (nI j)]) (rest := []) rfl rfl ml_X8_36 sm_X8_requireCell ini_X8 cd_X8_requireCell na_X8_requireCell tB_blind (fun _ _ _ => trivial) hl.1 (Nat.le_of_ble_eq_true rfl) ⟨Nat.le_of_ble_eq_true rfl, Nat.le_of_ble_eq_true rfl⟩ ⟨Nat.le_refl _, Nat.le_refl _⟩ rfl dX8_wall_1) ?_
  refine lv_aload_n hx hb dX8_wall_4 rfl (lv_at hl 0 rfl) ?_
  refine r1_get hC hK.1 (hW.ob (show jV M 8 0 from rfl)) lay_X8 rfl 0 (by decide) fl_X8_10 (fun x hx => hx) (v := .ref (ja 0 0)) rfl dX8_wall_5 ?_
  refine r1_get hC hK.1 (hW.ob (show jV M 0 0 from rfl)) lay_X0 rfl 0 (by decide) fl_X8_40 (fun x hx => hx) (v := .ref (ja 1 0)) rfl dX8_wall_8 ?_
  refine lv_iload_n hx hb dX8_wall_11 rfl (lv_at hl 1 rfl) ?_
  refine cl_p (run_V hC (cJ_X1_isWall l G d0 mi Rf ja M E j (by omega)) (As := [.int (nI j)]) (rest := []) rfl rfl ml_X8_44 im_X1_isWall se_X1_isWall ini_X1 cd_X1_isWall ⟨rfl, na_X1_isWall⟩ jB_blind (hW.recv hK (show jV M 1 0 from rfl) rfl) (jB_at hX hRf hW hS) hl.1 (Nat.le_of_ble_eq_true rfl) ⟨Nat.le_of_ble_eq_true rfl, Nat.le_of_ble_eq_true rfl⟩ ⟨Nat.le_refl _, Nat.le_refl _⟩ rfl dX8_wall_12) ?_
  refine lb_ne (tgt := 45) (b := (decide (¬ M 2 j = 0))) hx hb dX8_wall_15 (by decide) (fun c_1t => ?_) (fun c_1f => ?_)
  · simp [w2, w3, w4, w5] at c_1t
  · refine lv_aload_n hx hb dX8_wall_18 rfl (lv_at hl 0 rfl) ?_
    refine lv_iload_n hx hb dX8_wall_19 rfl (lv_at hl 1 rfl) ?_
    refine cl_p (run_V hC (cJ_X8_isHome l G d0 mi Rf ja M E (nI j)) (As := [.int (nI j)]) (rest := []) rfl rfl ml_X8_50 im_X8_isHome se_X8_isHome ini_X8 cd_X8_isHome ⟨rfl, na_X8_isHome⟩ jB_blind (hW.recv hK (show jV M 8 0 from rfl) rfl) (jB_at hX hRf hW hS) hl.1 (Nat.le_of_ble_eq_true rfl) ⟨Nat.le_of_ble_eq_true rfl, Nat.le_of_ble_eq_true rfl⟩ ⟨Nat.le_refl _, Nat.le_refl _⟩ rfl dX8_wall_20) ?_
    refine lb_ne (tgt := 45) (b := ((hmA M (nI j)).isSome)) hx hb dX8_wall_23 (by decide) (fun c_2t => ?_) (fun c_2f => ?_)
    · simp [w2, w3, w4, w5] at c_2t
    · refine lv_aload_n hx hb dX8_wall_26 rfl (lv_at hl 0 rfl) ?_
      refine lv_iload_n hx hb dX8_wall_27 rfl (lv_at hl 1 rfl) ?_
      refine cl_p (run_V hC (cJ_X8_isStation l G d0 mi Rf ja M E (nI j)) (As := [.int (nI j)]) (rest := []) rfl rfl ml_X8_53 im_X8_isStation se_X8_isStation ini_X8 cd_X8_isStation ⟨rfl, na_X8_isStation⟩ jB_blind (hW.recv hK (show jV M 8 0 from rfl) rfl) (jB_at hX hRf hW hS) hl.1 (Nat.le_of_ble_eq_true rfl) ⟨Nat.le_of_ble_eq_true rfl, Nat.le_of_ble_eq_true rfl⟩ ⟨Nat.le_refl _, Nat.le_refl _⟩ rfl dX8_wall_28) ?_
      refine lb_ne (tgt := 45) (b := ((stA M (nI j)).isSome)) hx hb dX8_wall_31 (by decide) (fun c_3t => ?_) (fun c_3f => ?_)
      · simp [w2, w3, w4, w5] at c_3t
      · refine lv_aload_n hx hb dX8_wall_34 rfl (lv_at hl 0 rfl) ?_
        refine r1_get hC hK.1 (hW.ob (show jV M 8 0 from rfl)) lay_X8 rfl 0 (by decide) fl_X8_10 (fun x hx => hx) (v := .ref (ja 0 0)) rfl dX8_wall_35 ?_
        refine lv_iload_n hx hb dX8_wall_38 rfl (lv_at hl 1 rfl) ?_
        refine cl_p (run_V hC (cJ_X0_robotAt l G d0 mi Rf ja M E (nI j) huq18) (As := [.int (nI j)]) (rest := []) rfl rfl ml_X8_56 im_X0_robotAt se_X0_robotAt ini_X0 cd_X0_robotAt ⟨rfl, na_X0_robotAt⟩ jB_blind (hW.recv hK (show jV M 0 0 from rfl) rfl) (jB_at hX hRf hW hS) hl.1 (Nat.le_of_ble_eq_true rfl) ⟨Nat.le_of_ble_eq_true rfl, Nat.le_of_ble_eq_true rfl⟩ ⟨Nat.le_refl _, Nat.le_refl _⟩ rfl dX8_wall_39) ?_
        rcases ho4 : rbA M (nI j) with _ | k4
        · refine top_v (y := .null) (by first | rfl | (rw [ho4]; rfl)) ?_
          refine lv_ifnullN (tgt := 55) hx hb dX8_wall_42 (by decide) ?_
          refine lv_aload_n hx hb dX8_wall_55 rfl (lv_at hl 0 rfl) ?_
          refine r1_get hC hK.1 (hW.ob (show jV M 8 0 from rfl)) lay_X8 rfl 0 (by decide) fl_X8_10 (fun x hx => hx) (v := .ref (ja 0 0)) rfl dX8_wall_56 ?_
          refine r1_get hC hK.1 (hW.ob (show jV M 0 0 from rfl)) lay_X0 rfl 0 (by decide) fl_X8_40 (fun x hx => hx) (v := .ref (ja 1 0)) rfl dX8_wall_59 ?_
          refine lv_iload_n hx hb dX8_wall_62 rfl (lv_at hl 1 rfl) ?_
          refine jcl_v (run_V hC (cJ_X1_buildWall l G d0 mi Rf ja M E j (by omega)) (As := [.int (nI j)]) (rest := []) rfl rfl ml_X8_67 im_X1_buildWall se_X1_buildWall ini_X1 cd_X1_buildWall ⟨rfl, na_X1_buildWall⟩ jB_blind (hW.recv hK (show jV M 1 0 from rfl) rfl) (jB_at hX hRf hW hS) hl.1 (Nat.le_of_ble_eq_true rfl) ⟨Nat.le_of_ble_eq_true rfl, Nat.le_of_ble_eq_true rfl⟩ ⟨Nat.le_refl _, Nat.le_refl _⟩ rfl dX8_wall_63) hS (fun H locs hW hS => ?_)
          subst hQ
          rw [show (mset M 2 j 1) = mset M 2 j 1 from rfl] at hW
          exact rt_qv () hx hb hr hlk hS (trivial) (fun t ht _ => by show WJ G d0 Rf ja _ _ t.heap; rw [ht]; exact hW) (by show 0 ≤ 0; omega) (by show 0 ≤ 0; omega) dX8_wall_66
        · refine top_v (y := .ref (ja 5 k4)) (by first | rfl | (rw [ho4]; rfl)) ?_
          have hlt_k4 := (lastE_lt ho4).1
          refine lv_ifnull hx hb dX8_wall_42 ?_
          simp [w2, w3, w4, w5] at ho4
set_option maxHeartbeats 4000000 in
set_option maxRecDepth 100000 in
theorem cJ_X8_wallX1 (l : Launch) (G : gG) (d0 mi : Nat) (Rf : Nat → Prop) (ja : Nat → Nat → Nat) (M : MS) (E : ES) (x : Int32) (hno : inB x 64 = false) (hl9 : l.stackTraces = false) : vx_Met l yX8_wall (wB yX8_wall cX8_wall 2 none) (rmL 6 1 6) (va_Pc [.ref (ja 8 0), .int x] (jT G d0 mi Rf ja M E)) xQ (xN xIAE) 1 6 (jA Rf) := by
  refine st_X (own := RX8) (by decide +kernel) rfl (Nat.le_of_ble_eq_true rfl) ?_
  intro p e s m below meth c ls args Q hQ hC hr hlk hex hl hP
  obtain ⟨⟨hW, hX, hRf⟩, hT9⟩ := hP
  have hK := hX.1
  have hx := hC.1
  have hb := hC.2.1
  have hl : lv_has ls 2 [(0, .ref (ja 8 0)), (1, .int x)] := hl
  have hS : va_S (jA Rf) s.heap s.heap [] := va_S.rf
  refine lv_iload_n hx hb dX8_wall_0 rfl (lv_at hl 1 rfl) ?_
  exact jx_call (run_SX hC (cJ_X8_requireCellX l G d0 mi Rf ja M E x (by assumption) hl9) (As := [.int x]) (rest := []) rfl rfl ml_X8_36 sm_X8_requireCell ini_X8 cd_X8_requireCell na_X8_requireCell jT_blind (jT_at hX hT9 hRf hW hS) hl.1 (Nat.le_of_ble_eq_true rfl) ⟨Nat.le_of_ble_eq_true rfl, Nat.le_of_ble_eq_true rfl⟩ ⟨Nat.le_refl _, Nat.le_refl _⟩ rfl dX8_wall_1) hQ hex hlk
set_option maxHeartbeats 4000000 in
set_option maxRecDepth 100000 in
theorem cJ_X8_wallX2 (l : Launch) (G : gG) (d0 mi : Nat) (Rf : Nat → Prop) (ja : Nat → Nat → Nat) (M : MS) (E : ES) (j : Nat) (hj : j < 64) (huq18 : uq18 M) (hno : ¬ (M 2 j = 0 ∧ hmA M (nI j) = none ∧ stA M (nI j) = none ∧ rbA M (nI j) = none)) (hl9 : l.stackTraces = false) : vx_Met l yX8_wall (wB yX8_wall cX8_wall 2 none) (rmL 6 1 6) (va_Pc [.ref (ja 8 0), .int (nI j)] (jT G d0 mi Rf ja M E)) xQ (xN xISE) 1 6 (jA Rf) := by
  refine st_X (own := RX8) (by decide +kernel) rfl (Nat.le_of_ble_eq_true rfl) ?_
  intro p e s m below meth c ls args Q hQ hC hr hlk hex hl hP
  obtain ⟨⟨hW, hX, hRf⟩, hT9⟩ := hP
  have hK := hX.1
  have hx := hC.1
  have hb := hC.2.1
  have hl : lv_has ls 2 [(0, .ref (ja 8 0)), (1, .int (nI j))] := hl
  have hS : va_S (jA Rf) s.heap s.heap [] := va_S.rf
  refine lv_iload_n hx hb dX8_wall_0 rfl (lv_at hl 1 rfl) ?_
  refine cl_pv (run_S hC (cJ_X8_requireCell l j (by omega)) (As := [.int (nI j)]) (rest := []) rfl rfl ml_X8_36 sm_X8_requireCell ini_X8 cd_X8_requireCell na_X8_requireCell tB_blind (fun _ _ _ => trivial) hl.1 (Nat.le_of_ble_eq_true rfl) ⟨Nat.le_of_ble_eq_true rfl, Nat.le_of_ble_eq_true rfl⟩ ⟨by show 0 + 0 ≤ 1; omega, by show 0 + 0 ≤ 6; omega⟩ rfl dX8_wall_1) ?_
  refine lv_aload_n hx hb dX8_wall_4 rfl (lv_at hl 0 rfl) ?_
  refine r1_get hC hK.1 (hW.ob (show jV M 8 0 from rfl)) lay_X8 rfl 0 (by decide) fl_X8_10 (fun x hx => hx) (v := .ref (ja 0 0)) rfl dX8_wall_5 ?_
  refine r1_get hC hK.1 (hW.ob (show jV M 0 0 from rfl)) lay_X0 rfl 0 (by decide) fl_X8_40 (fun x hx => hx) (v := .ref (ja 1 0)) rfl dX8_wall_8 ?_
  refine lv_iload_n hx hb dX8_wall_11 rfl (lv_at hl 1 rfl) ?_
  refine cl_p (run_V hC (cJ_X1_isWall l G d0 mi Rf ja M E j (by omega)) (As := [.int (nI j)]) (rest := []) rfl rfl ml_X8_44 im_X1_isWall se_X1_isWall ini_X1 cd_X1_isWall ⟨rfl, na_X1_isWall⟩ jB_blind (hW.recv hK (show jV M 1 0 from rfl) rfl) (jB_at hX hRf hW hS) hl.1 (Nat.le_of_ble_eq_true rfl) ⟨Nat.le_of_ble_eq_true rfl, Nat.le_of_ble_eq_true rfl⟩ ⟨by show 0 + 0 ≤ 1; omega, by show 0 + 0 ≤ 6; omega⟩ rfl dX8_wall_12) ?_
  refine lb_ne (tgt := 45) (b := (decide (¬ M 2 j = 0))) hx hb dX8_wall_15 (by decide) (fun c_1t => ?_) (fun c_1f => ?_)
  · exact jx_ISE hC hl9 hT9 hex hlk hl.1 (text := "the cell is in use") (by decide) ⟨Nat.le_of_ble_eq_true rfl, Nat.le_of_ble_eq_true rfl, Nat.le_refl _, Nat.le_refl _⟩ (by decide) hQ dX8_wall_45 dX8_wall_48 dX8_wall_49 dX8_wall_51 dX8_wall_54
  · refine lv_aload_n hx hb dX8_wall_18 rfl (lv_at hl 0 rfl) ?_
    refine lv_iload_n hx hb dX8_wall_19 rfl (lv_at hl 1 rfl) ?_
    refine cl_p (run_V hC (cJ_X8_isHome l G d0 mi Rf ja M E (nI j)) (As := [.int (nI j)]) (rest := []) rfl rfl ml_X8_50 im_X8_isHome se_X8_isHome ini_X8 cd_X8_isHome ⟨rfl, na_X8_isHome⟩ jB_blind (hW.recv hK (show jV M 8 0 from rfl) rfl) (jB_at hX hRf hW hS) hl.1 (Nat.le_of_ble_eq_true rfl) ⟨Nat.le_of_ble_eq_true rfl, Nat.le_of_ble_eq_true rfl⟩ ⟨by show 0 + 0 ≤ 1; omega, by show 0 + 0 ≤ 6; omega⟩ rfl dX8_wall_20) ?_
    refine lb_ne (tgt := 45) (b := ((hmA M (nI j)).isSome)) hx hb dX8_wall_23 (by decide) (fun c_2t => ?_) (fun c_2f => ?_)
    · exact jx_ISE hC hl9 hT9 hex hlk hl.1 (text := "the cell is in use") (by decide) ⟨Nat.le_of_ble_eq_true rfl, Nat.le_of_ble_eq_true rfl, Nat.le_refl _, Nat.le_refl _⟩ (by decide) hQ dX8_wall_45 dX8_wall_48 dX8_wall_49 dX8_wall_51 dX8_wall_54
    · refine lv_aload_n hx hb dX8_wall_26 rfl (lv_at hl 0 rfl) ?_
      refine lv_iload_n hx hb dX8_wall_27 rfl (lv_at hl 1 rfl) ?_
      refine cl_p (run_V hC (cJ_X8_isStation l G d0 mi Rf ja M E (nI j)) (As := [.int (nI j)]) (rest := []) rfl rfl ml_X8_53 im_X8_isStation se_X8_isStation ini_X8 cd_X8_isStation ⟨rfl, na_X8_isStation⟩ jB_blind (hW.recv hK (show jV M 8 0 from rfl) rfl) (jB_at hX hRf hW hS) hl.1 (Nat.le_of_ble_eq_true rfl) ⟨Nat.le_of_ble_eq_true rfl, Nat.le_of_ble_eq_true rfl⟩ ⟨by show 0 + 0 ≤ 1; omega, by show 0 + 0 ≤ 6; omega⟩ rfl dX8_wall_28) ?_
      refine lb_ne (tgt := 45) (b := ((stA M (nI j)).isSome)) hx hb dX8_wall_31 (by decide) (fun c_3t => ?_) (fun c_3f => ?_)
      · exact jx_ISE hC hl9 hT9 hex hlk hl.1 (text := "the cell is in use") (by decide) ⟨Nat.le_of_ble_eq_true rfl, Nat.le_of_ble_eq_true rfl, Nat.le_refl _, Nat.le_refl _⟩ (by decide) hQ dX8_wall_45 dX8_wall_48 dX8_wall_49 dX8_wall_51 dX8_wall_54
      · refine lv_aload_n hx hb dX8_wall_34 rfl (lv_at hl 0 rfl) ?_
        refine r1_get hC hK.1 (hW.ob (show jV M 8 0 from rfl)) lay_X8 rfl 0 (by decide) fl_X8_10 (fun x hx => hx) (v := .ref (ja 0 0)) rfl dX8_wall_35 ?_
        refine lv_iload_n hx hb dX8_wall_38 rfl (lv_at hl 1 rfl) ?_
        refine cl_p (run_V hC (cJ_X0_robotAt l G d0 mi Rf ja M E (nI j) huq18) (As := [.int (nI j)]) (rest := []) rfl rfl ml_X8_56 im_X0_robotAt se_X0_robotAt ini_X0 cd_X0_robotAt ⟨rfl, na_X0_robotAt⟩ jB_blind (hW.recv hK (show jV M 0 0 from rfl) rfl) (jB_at hX hRf hW hS) hl.1 (Nat.le_of_ble_eq_true rfl) ⟨Nat.le_of_ble_eq_true rfl, Nat.le_of_ble_eq_true rfl⟩ ⟨by show 0 + 0 ≤ 1; omega, by show 0 + 0 ≤ 6; omega⟩ rfl dX8_wall_39) ?_
        rcases ho4 : rbA M (nI j) with _ | k4
        · refine top_v (y := .null) (by first | rfl | (rw [ho4]; rfl)) ?_
          refine lv_ifnullN (tgt := 55) hx hb dX8_wall_42 (by decide) ?_
          exact absurd ⟨by simpa using c_1f, by simpa using c_2f, by simpa using c_3f, ho4⟩ hno
        · refine top_v (y := .ref (ja 5 k4)) (by first | rfl | (rw [ho4]; rfl)) ?_
          have hlt_k4 := (lastE_lt ho4).1
          refine lv_ifnull hx hb dX8_wall_42 ?_
          exact jx_ISE hC hl9 hT9 hex hlk hl.1 (text := "the cell is in use") (by decide) ⟨Nat.le_of_ble_eq_true rfl, Nat.le_of_ble_eq_true rfl, Nat.le_refl _, Nat.le_refl _⟩ (by decide) hQ dX8_wall_45 dX8_wall_48 dX8_wall_49 dX8_wall_51 dX8_wall_54
set_option maxHeartbeats 4000000 in
set_option maxRecDepth 100000 in
theorem cJ_X8_setClosed (l : Launch) (G : gG) (d0 mi : Nat) (Rf : Nat → Prop) (ja : Nat → Nat → Nat) (M : MS) (E : ES) (j : Nat) (b : Bool) (hj : j < 64) : Met l yX8_setClosed (wB yX8_setClosed cX8_setClosed 4 (some .boolean)) (rmL 6 0 0) (va_Pc [.ref (ja 8 0), .int (nI j), .int (bI b)] (jB G d0 mi Rf ja M E)) (va_Qi (S := Unit) (fun v9 _ => v9 = bI (decide (¬ M 3 j = 0)) ∧ True) (fun _ z9 => WJ G d0 Rf ja (mset M 3 j (bI b)) (E) z9.heap) (jA Rf)) 0 0 (jA Rf) := by
  refine st_N (own := RX8) (by decide +kernel) rfl (Nat.le_of_ble_eq_true rfl) ?_
  intro p e s m below meth c ls args Q hQ hC hr hlk hnm hl hP
  obtain ⟨hW, hX, hRf⟩ := hP
  have hK := hX.1
  have hx := hC.1
  have hb := hC.2.1
  have hl : lv_has ls 4 [(0, .ref (ja 8 0)), (1, .int (nI j)), (2, .int (bI b))] := hl
  obtain ⟨H, locs, hHe, hLe⟩ : ∃ (H : Heap) (locs : List Loc), H = s.heap ∧ locs = [] := ⟨_, _, rfl, rfl⟩
  rw [← hHe] at hW
  have hS : va_S (jA Rf) s.heap H locs := by rw [hHe, hLe]; exact va_S.rf
  suffices hgo : W p l e (rmL 6 0 0) s m args below meth c H locs 0 0 Q (F0 m 0 ls []) by
    rw [hHe, hLe] at hgo
    exact hgo
  clear hHe hLe
  refine lv_iload_n hx hb dX8_setClosed_0 rfl (lv_at hl 1 rfl) ?_
  refine cl_pv (run_S hC (cJ_X8_requireCell l j (by omega)) (As := [.int (nI j)]) (rest := []) rfl rfl ml_X8_36 sm_X8_requireCell ini_X8 cd_X8_requireCell na_X8_requireCell tB_blind (fun _ _ _ => trivial) hl.1 (Nat.le_of_ble_eq_true rfl) ⟨Nat.le_of_ble_eq_true rfl, Nat.le_of_ble_eq_true rfl⟩ ⟨Nat.le_refl _, Nat.le_refl _⟩ rfl dX8_setClosed_1) ?_
  refine lv_aload_n hx hb dX8_setClosed_4 rfl (lv_at hl 0 rfl) ?_
  refine r1_get hC hK.1 (hW.ob (show jV M 8 0 from rfl)) lay_X8 rfl 0 (by decide) fl_X8_10 (fun x hx => hx) (v := .ref (ja 0 0)) rfl dX8_setClosed_5 ?_
  refine r1_get hC hK.1 (hW.ob (show jV M 0 0 from rfl)) lay_X0 rfl 0 (by decide) fl_X8_40 (fun x hx => hx) (v := .ref (ja 1 0)) rfl dX8_setClosed_8 ?_
  refine lv_iload_n hx hb dX8_setClosed_11 rfl (lv_at hl 1 rfl) ?_
  refine cl_p (run_V hC (cJ_X1_isClosed l G d0 mi Rf ja M E j (by omega)) (As := [.int (nI j)]) (rest := []) rfl rfl ml_X8_70 im_X1_isClosed se_X1_isClosed ini_X1 cd_X1_isClosed ⟨rfl, na_X1_isClosed⟩ jB_blind (hW.recv hK (show jV M 1 0 from rfl) rfl) (jB_at hX hRf hW hS) hl.1 (Nat.le_of_ble_eq_true rfl) ⟨Nat.le_of_ble_eq_true rfl, Nat.le_of_ble_eq_true rfl⟩ ⟨Nat.le_refl _, Nat.le_refl _⟩ rfl dX8_setClosed_12) ?_
  refine lv_istore_n (lv' := [(3, .int (bI (decide (¬ M 3 j = 0)))), (0, .ref (ja 8 0)), (1, .int (nI j)), (2, .int (bI b))]) hx hb dX8_setClosed_15 rfl hl (by decide) rfl (fun ls hl => ?_)
  refine lv_aload_n hx hb dX8_setClosed_16 rfl (lv_at hl 1 rfl) ?_
  refine r1_get hC hK.1 (hW.ob (show jV M 8 0 from rfl)) lay_X8 rfl 0 (by decide) fl_X8_10 (fun x hx => hx) (v := .ref (ja 0 0)) rfl dX8_setClosed_17 ?_
  refine r1_get hC hK.1 (hW.ob (show jV M 0 0 from rfl)) lay_X0 rfl 0 (by decide) fl_X8_40 (fun x hx => hx) (v := .ref (ja 1 0)) rfl dX8_setClosed_20 ?_
  refine lv_iload_n hx hb dX8_setClosed_23 rfl (lv_at hl 2 rfl) ?_
  refine lv_iload_n hx hb dX8_setClosed_24 rfl (lv_at hl 3 rfl) ?_
  refine jcl_v (run_V hC (cJ_X1_markClosed l G d0 mi Rf ja M E j b (by omega)) (As := [.int (nI j), .int (bI b)]) (rest := []) rfl rfl ml_X8_73 im_X1_markClosed se_X1_markClosed ini_X1 cd_X1_markClosed ⟨rfl, na_X1_markClosed⟩ jB_blind (hW.recv hK (show jV M 1 0 from rfl) rfl) (jB_at hX hRf hW hS) hl.1 (Nat.le_of_ble_eq_true rfl) ⟨Nat.le_of_ble_eq_true rfl, Nat.le_of_ble_eq_true rfl⟩ ⟨Nat.le_refl _, Nat.le_refl _⟩ rfl dX8_setClosed_25) hS (fun H locs hW hS => ?_)
  refine lv_iload_n hx hb dX8_setClosed_28 rfl (lv_at hl 0 rfl) ?_
  subst hQ
  exact rt_qz () (decide (¬ M 3 j = 0)) hx hb hr hlk hS rfl ⟨rfl, trivial⟩ (fun t ht _ => by show WJ G d0 Rf ja _ _ t.heap; rw [ht]; exact hW) (by show 0 ≤ 0; omega) (by show 0 ≤ 0; omega) dX8_setClosed_29
set_option maxHeartbeats 4000000 in
set_option maxRecDepth 100000 in
theorem cJ_X8_setClosedX1 (l : Launch) (G : gG) (d0 mi : Nat) (Rf : Nat → Prop) (ja : Nat → Nat → Nat) (M : MS) (E : ES) (x : Int32) (b : Bool) (hno : inB x 64 = false) (hl9 : l.stackTraces = false) : vx_Met l yX8_setClosed (wB yX8_setClosed cX8_setClosed 4 (some .boolean)) (rmL 6 1 6) (va_Pc [.ref (ja 8 0), .int x, .int (bI b)] (jT G d0 mi Rf ja M E)) xQ (xN xIAE) 1 6 (jA Rf) := by
  refine st_X (own := RX8) (by decide +kernel) rfl (Nat.le_of_ble_eq_true rfl) ?_
  intro p e s m below meth c ls args Q hQ hC hr hlk hex hl hP
  obtain ⟨⟨hW, hX, hRf⟩, hT9⟩ := hP
  have hK := hX.1
  have hx := hC.1
  have hb := hC.2.1
  have hl : lv_has ls 4 [(0, .ref (ja 8 0)), (1, .int x), (2, .int (bI b))] := hl
  have hS : va_S (jA Rf) s.heap s.heap [] := va_S.rf
  refine lv_iload_n hx hb dX8_setClosed_0 rfl (lv_at hl 1 rfl) ?_
  exact jx_call (run_SX hC (cJ_X8_requireCellX l G d0 mi Rf ja M E x (by assumption) hl9) (As := [.int x]) (rest := []) rfl rfl ml_X8_36 sm_X8_requireCell ini_X8 cd_X8_requireCell na_X8_requireCell jT_blind (jT_at hX hT9 hRf hW hS) hl.1 (Nat.le_of_ble_eq_true rfl) ⟨Nat.le_of_ble_eq_true rfl, Nat.le_of_ble_eq_true rfl⟩ ⟨Nat.le_refl _, Nat.le_refl _⟩ rfl dX8_setClosed_1) hQ hex hlk
set_option maxHeartbeats 4000000 in
set_option maxRecDepth 100000 in
theorem cJ_X7_putW (l : Launch) (G : gG) (d0 mi : Nat) (Rf : Nat → Prop) (ja : Nat → Nat → Nat) (M : MS) (E : ES) (t : Nat) (x : Int32) (h_t : t < nT M) : Met l yX7_put (wB yX7_put cX7_put 2 none) (rmL 1 0 0) (va_Pc [.ref (ja 7 t), .int x] (jB G d0 mi Rf ja M E)) (va_Qv (S := Unit) (fun _ => True) (fun _ z9 => WJ G d0 Rf ja (mset M 9 t (M 9 t + x)) (eR_ E (upd (eR E) t (eR E t + x))) z9.heap) (jA Rf)) 0 0 (jA Rf) := by
  refine st_N (own := RX7) (by decide +kernel) rfl (Nat.le_of_ble_eq_true rfl) ?_
  intro p e s m below meth c ls args Q hQ hC hr hlk hnm hl hP
  obtain ⟨hW, hX, hRf⟩ := hP
  have hK := hX.1
  have hx := hC.1
  have hb := hC.2.1
  have hl : lv_has ls 2 [(0, .ref (ja 7 t)), (1, .int x)] := hl
  obtain ⟨H, locs, hHe, hLe⟩ : ∃ (H : Heap) (locs : List Loc), H = s.heap ∧ locs = [] := ⟨_, _, rfl, rfl⟩
  rw [← hHe] at hW
  have hS : va_S (jA Rf) s.heap H locs := by rw [hHe, hLe]; exact va_S.rf
  suffices hgo : W p l e (rmL 1 0 0) s m args below meth c H locs 0 0 Q (F0 m 0 ls []) by
    rw [hHe, hLe] at hgo
    exact hgo
  clear hHe hLe
  refine lv_aload_n hx hb dX7_put_0 rfl (lv_at hl 0 rfl) ?_
  refine lv_dup hx hb dX7_put_1 rfl ?_
  refine r1_get hC hK.1 (hW.ob (show jV M 7 t from h_t)) lay_X7 rfl 3 (by decide) fl_X7_7 (fun x hx => hx) (v := .int (M 9 t)) rfl dX7_put_2 ?_
  refine lv_iload_n hx hb dX7_put_5 rfl (lv_at hl 1 rfl) ?_
  refine lv_iadd hx hb dX7_put_6 ?_
  refine jp_r9 hC hK hW hS (show t < nT M from h_t) fl_X7_7 dX7_put_7 (fun H locs hW hS => ?_)
  refine lv_aload_n hx hb dX7_put_10 rfl (lv_at hl 0 rfl) ?_
  refine lv_dup hx hb dX7_put_11 rfl ?_
  refine r1_get hC hK.1 (hW.ob (show jV (mset M 9 t ((M 9 t) + x)) 7 t from h_t)) lay_X7 rfl 4 (by decide) fl_X7_13 (fun x hx => hx) (v := .int (eR E t)) rfl dX7_put_12 ?_
  refine lv_iload_n hx hb dX7_put_15 rfl (lv_at hl 1 rfl) ?_
  refine lv_iadd hx hb dX7_put_16 ?_
  refine jp_rc hC hK hW hS (show t < nT (mset M 9 t ((M 9 t) + x)) from h_t) fl_X7_13 dX7_put_17 (fun H locs hW hS => ?_)
  subst hQ
  rw [show (mset M 9 t ((M 9 t) + x)) = mset M 9 t (M 9 t + x) from rfl] at hW
  exact rt_qv () hx hb hr hlk hS (trivial) (fun t ht _ => by show WJ G d0 Rf ja _ _ t.heap; rw [ht]; exact hW) (by show 0 ≤ 0; omega) (by show 0 ≤ 0; omega) dX7_put_20
set_option maxHeartbeats 4000000 in
set_option maxRecDepth 100000 in
theorem cJ_X8_fill (l : Launch) (G : gG) (d0 mi : Nat) (Rf : Nat → Prop) (ja : Nat → Nat → Nat) (M : MS) (E : ES) (t : Nat) (a : Nat) (h1 : t < nT M) (huq21 : uq21 M) (h16 : t < 16) (h2 : 0 < a) (h3 : a ≤ 100) (h4 : carA M t = none) : Met l yX8_fill (wB yX8_fill cX8_fill 4 (some .int)) (rmL 6 0 0) (va_Pc [.ref (ja 8 0), .int (nI t), .int (nI a)] (jB G d0 mi Rf ja M E)) (va_Qi (S := Unit) (fun v9 _ => v9 = M 9 t + nI a ∧ True) (fun _ z9 => WJ G d0 Rf ja (mset M 9 t (M 9 t + nI a)) (eR_ E (upd (eR E) t (eR E t + nI a))) z9.heap) (jA Rf)) 0 0 (jA Rf) := by
  refine st_N (own := RX8) (by decide +kernel) rfl (Nat.le_of_ble_eq_true rfl) ?_
  intro p e s m below meth c ls args Q hQ hC hr hlk hnm hl hP
  obtain ⟨hW, hX, hRf⟩ := hP
  have hK := hX.1
  have hx := hC.1
  have hb := hC.2.1
  have hl : lv_has ls 4 [(0, .ref (ja 8 0)), (1, .int (nI t)), (2, .int (nI a))] := hl
  obtain ⟨H, locs, hHe, hLe⟩ : ∃ (H : Heap) (locs : List Loc), H = s.heap ∧ locs = [] := ⟨_, _, rfl, rfl⟩
  rw [← hHe] at hW
  have hS : va_S (jA Rf) s.heap H locs := by rw [hHe, hLe]; exact va_S.rf
  suffices hgo : W p l e (rmL 6 0 0) s m args below meth c H locs 0 0 Q (F0 m 0 ls []) by
    rw [hHe, hLe] at hgo
    exact hgo
  clear hHe hLe
  refine lv_aload_n hx hb dX8_fill_0 rfl (lv_at hl 0 rfl) ?_
  refine lv_iload_n hx hb dX8_fill_1 rfl (lv_at hl 1 rfl) ?_
  refine cl_p (run_V hC (cJ_X8_findTray l G d0 mi Rf ja M E t (by omega)) (As := [.int (nI t)]) (rest := []) rfl rfl ml_X8_116 im_X8_findTray se_X8_findTray ini_X8 cd_X8_findTray ⟨rfl, na_X8_findTray⟩ jB_blind (hW.recv hK (show jV M 8 0 from rfl) rfl) (jB_at hX hRf hW hS) hl.1 (Nat.le_of_ble_eq_true rfl) ⟨Nat.le_of_ble_eq_true rfl, Nat.le_of_ble_eq_true rfl⟩ ⟨Nat.le_refl _, Nat.le_refl _⟩ rfl dX8_fill_2) ?_
  refine lv_astore_n (lv' := [(3, .ref (ja 7 t)), (0, .ref (ja 8 0)), (1, .int (nI t)), (2, .int (nI a))]) hx hb dX8_fill_5 rfl hl (by decide) rfl (fun ls hl => ?_)
  refine lv_iload_n hx hb dX8_fill_6 rfl (lv_at hl 3 rfl) ?_
  refine lv_iconst (v := 1) hx hb dX8_fill_7 (by decide) ?_
  refine lv_bipush (v := 100) hx hb dX8_fill_8 (by decide) ?_
  refine cl_pv (run_S hC (cJ_X8_requireRange l (nI a) 1 100 (nI_one h2 (by omega)) ((nI_rg (j := a) (n := 100) (by omega) (by decide)).2)) (As := [.int (nI a), .int 1, .int 100]) (rest := []) rfl rfl ml_X8_102 sm_X8_requireRange ini_X8 cd_X8_requireRange na_X8_requireRange tB_blind (fun _ _ _ => trivial) hl.1 (Nat.le_of_ble_eq_true rfl) ⟨Nat.le_of_ble_eq_true rfl, Nat.le_of_ble_eq_true rfl⟩ ⟨Nat.le_refl _, Nat.le_refl _⟩ rfl dX8_fill_10) ?_
  refine lv_aload_n hx hb dX8_fill_13 rfl (lv_at hl 1 rfl) ?_
  refine r1_get hC hK.1 (hW.ob (show jV M 8 0 from rfl)) lay_X8 rfl 0 (by decide) fl_X8_10 (fun x hx => hx) (v := .ref (ja 0 0)) rfl dX8_fill_14 ?_
  refine lv_aload_n hx hb dX8_fill_17 rfl (lv_at hl 0 rfl) ?_
  refine cl_p (run_V hC (cJ_X0_carrierOf l G d0 mi Rf ja M E t (show t < nT M from h1) huq21 (by omega)) (As := [.ref (ja 7 t)]) (rest := []) rfl rfl ml_X8_120 im_X0_carrierOf se_X0_carrierOf ini_X0 cd_X0_carrierOf ⟨rfl, na_X0_carrierOf⟩ jB_blind (hW.recv hK (show jV M 0 0 from rfl) rfl) (jB_at hX hRf hW hS) hl.1 (Nat.le_of_ble_eq_true rfl) ⟨Nat.le_of_ble_eq_true rfl, Nat.le_of_ble_eq_true rfl⟩ ⟨Nat.le_refl _, Nat.le_refl _⟩ rfl dX8_fill_18) ?_
  rcases ho1 : carA M t with _ | k1
  · refine top_v (y := .null) (by first | rfl | (rw [ho1]; rfl)) ?_
    refine lv_ifnullN (tgt := 34) hx hb dX8_fill_21 (by decide) ?_
    refine lv_aload_n hx hb dX8_fill_34 rfl (lv_at hl 0 rfl) ?_
    refine lv_iload_n hx hb dX8_fill_35 rfl (lv_at hl 3 rfl) ?_
    refine jcl_v (run_V hC (cJ_X7_putW l G d0 mi Rf ja M E t (nI a) (show t < nT M from h1)) (As := [.int (nI a)]) (rest := []) rfl rfl ml_X8_112 im_X7_put se_X7_put ini_X7 cd_X7_put ⟨rfl, na_X7_put⟩ jB_blind (hW.recv hK (show jV M 7 t from h1) rfl) (jB_at hX hRf hW hS) hl.1 (Nat.le_of_ble_eq_true rfl) ⟨Nat.le_of_ble_eq_true rfl, Nat.le_of_ble_eq_true rfl⟩ ⟨Nat.le_refl _, Nat.le_refl _⟩ rfl dX8_fill_36) hS (fun H locs hW hS => ?_)
    refine lv_aload_n hx hb dX8_fill_39 rfl (lv_at hl 0 rfl) ?_
    refine r1_get hC hK.1 (hW.ob (show jV (mset M 9 t (M 9 t + (nI a))) 7 t from h1)) lay_X7 rfl 3 (by decide) fl_X8_126 (fun x hx => hx) (v := .int ((mset M 9 t (M 9 t + (nI a))) 9 t)) rfl dX8_fill_40 ?_
    subst hQ
    exact rt_qi () hx hb hr hlk hS ⟨by rw [mset_s, upd_s], trivial⟩ (fun t ht _ => by show WJ G d0 Rf ja _ _ t.heap; rw [ht]; exact hW) (by show 0 ≤ 0; omega) (by show 0 ≤ 0; omega) dX8_fill_43
  · refine top_v (y := .ref (ja 5 k1)) (by first | rfl | (rw [ho1]; rfl)) ?_
    have hlt_k1 : k1 < nR M := carA_lt ho1
    refine lv_ifnull hx hb dX8_fill_21 ?_
    simp [h4] at ho1
set_option maxHeartbeats 4000000 in
set_option maxRecDepth 100000 in
theorem cJ_X8_fillX1 (l : Launch) (G : gG) (d0 mi : Nat) (Rf : Nat → Prop) (ja : Nat → Nat → Nat) (M : MS) (E : ES) (x : Int32) (y : Int32) (hno : inB x (nI (nT M)) = false) (hl9 : l.stackTraces = false) : vx_Met l yX8_fill (wB yX8_fill cX8_fill 4 (some .int)) (rmL 6 1 6) (va_Pc [.ref (ja 8 0), .int x, .int y] (jT G d0 mi Rf ja M E)) xQ (xN xIOE) 1 6 (jA Rf) := by
  refine st_X (own := RX8) (by decide +kernel) rfl (Nat.le_of_ble_eq_true rfl) ?_
  intro p e s m below meth c ls args Q hQ hC hr hlk hex hl hP
  obtain ⟨⟨hW, hX, hRf⟩, hT9⟩ := hP
  have hK := hX.1
  have hx := hC.1
  have hb := hC.2.1
  have hl : lv_has ls 4 [(0, .ref (ja 8 0)), (1, .int x), (2, .int y)] := hl
  have hS : va_S (jA Rf) s.heap s.heap [] := va_S.rf
  refine lv_aload_n hx hb dX8_fill_0 rfl (lv_at hl 0 rfl) ?_
  refine lv_iload_n hx hb dX8_fill_1 rfl (lv_at hl 1 rfl) ?_
  exact jx_call (run_VX hC (cJ_X8_findTrayX l G d0 mi Rf ja M E x (by assumption) hl9) (As := [.int x]) (rest := []) rfl rfl ml_X8_116 im_X8_findTray se_X8_findTray ini_X8 cd_X8_findTray ⟨rfl, na_X8_findTray⟩ jT_blind (hW.recv hK (show jV M 8 0 from rfl) rfl) (jT_at hX hT9 hRf hW hS) hl.1 (Nat.le_of_ble_eq_true rfl) ⟨Nat.le_of_ble_eq_true rfl, Nat.le_of_ble_eq_true rfl⟩ ⟨Nat.le_refl _, Nat.le_refl _⟩ rfl dX8_fill_2) hQ hex hlk
set_option maxHeartbeats 4000000 in
set_option maxRecDepth 100000 in
theorem cJ_X8_fillX2 (l : Launch) (G : gG) (d0 mi : Nat) (Rf : Nat → Prop) (ja : Nat → Nat → Nat) (M : MS) (E : ES) (t : Nat) (y : Int32) (h1 : t < nT M) (hno : ¬ (¬ y < 1 ∧ y ≤ 100)) (hl9 : l.stackTraces = false) : vx_Met l yX8_fill (wB yX8_fill cX8_fill 4 (some .int)) (rmL 6 1 6) (va_Pc [.ref (ja 8 0), .int (nI t), .int y] (jT G d0 mi Rf ja M E)) xQ (xN xIAE) 1 6 (jA Rf) := by
  refine st_X (own := RX8) (by decide +kernel) rfl (Nat.le_of_ble_eq_true rfl) ?_
  intro p e s m below meth c ls args Q hQ hC hr hlk hex hl hP
  obtain ⟨⟨hW, hX, hRf⟩, hT9⟩ := hP
  have hK := hX.1
  have hx := hC.1
  have hb := hC.2.1
  have hl : lv_has ls 4 [(0, .ref (ja 8 0)), (1, .int (nI t)), (2, .int y)] := hl
  have hS : va_S (jA Rf) s.heap s.heap [] := va_S.rf
  refine lv_aload_n hx hb dX8_fill_0 rfl (lv_at hl 0 rfl) ?_
  refine lv_iload_n hx hb dX8_fill_1 rfl (lv_at hl 1 rfl) ?_
  refine cl_p (run_V hC (cJ_X8_findTray l G d0 mi Rf ja M E t (by omega)) (As := [.int (nI t)]) (rest := []) rfl rfl ml_X8_116 im_X8_findTray se_X8_findTray ini_X8 cd_X8_findTray ⟨rfl, na_X8_findTray⟩ jB_blind (hW.recv hK (show jV M 8 0 from rfl) rfl) (jB_at hX hRf hW hS) hl.1 (Nat.le_of_ble_eq_true rfl) ⟨Nat.le_of_ble_eq_true rfl, Nat.le_of_ble_eq_true rfl⟩ ⟨by show 0 + 0 ≤ 1; omega, by show 0 + 0 ≤ 6; omega⟩ rfl dX8_fill_2) ?_
  refine lv_astore_n (lv' := [(3, .ref (ja 7 t)), (0, .ref (ja 8 0)), (1, .int (nI t)), (2, .int y)]) hx hb dX8_fill_5 rfl hl (by decide) rfl (fun ls hl => ?_)
  refine lv_iload_n hx hb dX8_fill_6 rfl (lv_at hl 3 rfl) ?_
  refine lv_iconst (v := 1) hx hb dX8_fill_7 (by decide) ?_
  refine lv_bipush (v := 100) hx hb dX8_fill_8 (by decide) ?_
  exact jx_call (run_SX hC (cJ_X8_requireRangeX l G d0 mi Rf ja M E y 1 100 hno hl9) (As := [.int y, .int 1, .int 100]) (rest := []) rfl rfl ml_X8_102 sm_X8_requireRange ini_X8 cd_X8_requireRange na_X8_requireRange jT_blind (jT_at hX hT9 hRf hW hS) hl.1 (Nat.le_of_ble_eq_true rfl) ⟨Nat.le_of_ble_eq_true rfl, Nat.le_of_ble_eq_true rfl⟩ ⟨Nat.le_refl _, Nat.le_refl _⟩ rfl dX8_fill_10) hQ hex hlk
set_option maxHeartbeats 4000000 in
set_option maxRecDepth 100000 in
theorem cJ_X8_fillX3 (l : Launch) (G : gG) (d0 mi : Nat) (Rf : Nat → Prop) (ja : Nat → Nat → Nat) (M : MS) (E : ES) (t : Nat) (a : Nat) (h1 : t < nT M) (huq21 : uq21 M) (h16 : t < 16) (h2 : 0 < a) (h3 : a ≤ 100) (h4 : ¬ carA M t = none) (hl9 : l.stackTraces = false) : vx_Met l yX8_fill (wB yX8_fill cX8_fill 4 (some .int)) (rmL 6 1 6) (va_Pc [.ref (ja 8 0), .int (nI t), .int (nI a)] (jT G d0 mi Rf ja M E)) xQ (xN xISE) 1 6 (jA Rf) := by
  refine st_X (own := RX8) (by decide +kernel) rfl (Nat.le_of_ble_eq_true rfl) ?_
  intro p e s m below meth c ls args Q hQ hC hr hlk hex hl hP
  obtain ⟨⟨hW, hX, hRf⟩, hT9⟩ := hP
  have hK := hX.1
  have hx := hC.1
  have hb := hC.2.1
  have hl : lv_has ls 4 [(0, .ref (ja 8 0)), (1, .int (nI t)), (2, .int (nI a))] := hl
  have hS : va_S (jA Rf) s.heap s.heap [] := va_S.rf
  refine lv_aload_n hx hb dX8_fill_0 rfl (lv_at hl 0 rfl) ?_
  refine lv_iload_n hx hb dX8_fill_1 rfl (lv_at hl 1 rfl) ?_
  refine cl_p (run_V hC (cJ_X8_findTray l G d0 mi Rf ja M E t (by omega)) (As := [.int (nI t)]) (rest := []) rfl rfl ml_X8_116 im_X8_findTray se_X8_findTray ini_X8 cd_X8_findTray ⟨rfl, na_X8_findTray⟩ jB_blind (hW.recv hK (show jV M 8 0 from rfl) rfl) (jB_at hX hRf hW hS) hl.1 (Nat.le_of_ble_eq_true rfl) ⟨Nat.le_of_ble_eq_true rfl, Nat.le_of_ble_eq_true rfl⟩ ⟨by show 0 + 0 ≤ 1; omega, by show 0 + 0 ≤ 6; omega⟩ rfl dX8_fill_2) ?_
  refine lv_astore_n (lv' := [(3, .ref (ja 7 t)), (0, .ref (ja 8 0)), (1, .int (nI t)), (2, .int (nI a))]) hx hb dX8_fill_5 rfl hl (by decide) rfl (fun ls hl => ?_)
  refine lv_iload_n hx hb dX8_fill_6 rfl (lv_at hl 3 rfl) ?_
  refine lv_iconst (v := 1) hx hb dX8_fill_7 (by decide) ?_
  refine lv_bipush (v := 100) hx hb dX8_fill_8 (by decide) ?_
  refine cl_pv (run_S hC (cJ_X8_requireRange l (nI a) 1 100 (nI_one h2 (by omega)) ((nI_rg (j := a) (n := 100) (by omega) (by decide)).2)) (As := [.int (nI a), .int 1, .int 100]) (rest := []) rfl rfl ml_X8_102 sm_X8_requireRange ini_X8 cd_X8_requireRange na_X8_requireRange tB_blind (fun _ _ _ => trivial) hl.1 (Nat.le_of_ble_eq_true rfl) ⟨Nat.le_of_ble_eq_true rfl, Nat.le_of_ble_eq_true rfl⟩ ⟨by show 0 + 0 ≤ 1; omega, by show 0 + 0 ≤ 6; omega⟩ rfl dX8_fill_10) ?_
  refine lv_aload_n hx hb dX8_fill_13 rfl (lv_at hl 1 rfl) ?_
  refine r1_get hC hK.1 (hW.ob (show jV M 8 0 from rfl)) lay_X8 rfl 0 (by decide) fl_X8_10 (fun x hx => hx) (v := .ref (ja 0 0)) rfl dX8_fill_14 ?_
  refine lv_aload_n hx hb dX8_fill_17 rfl (lv_at hl 0 rfl) ?_
  refine cl_p (run_V hC (cJ_X0_carrierOf l G d0 mi Rf ja M E t (show t < nT M from (by show t < nT M; omega)) huq21 (by omega)) (As := [.ref (ja 7 t)]) (rest := []) rfl rfl ml_X8_120 im_X0_carrierOf se_X0_carrierOf ini_X0 cd_X0_carrierOf ⟨rfl, na_X0_carrierOf⟩ jB_blind (hW.recv hK (show jV M 0 0 from rfl) rfl) (jB_at hX hRf hW hS) hl.1 (Nat.le_of_ble_eq_true rfl) ⟨Nat.le_of_ble_eq_true rfl, Nat.le_of_ble_eq_true rfl⟩ ⟨by show 0 + 0 ≤ 1; omega, by show 0 + 0 ≤ 6; omega⟩ rfl dX8_fill_18) ?_
  rcases ho1 : carA M t with _ | k1
  · refine top_v (y := .null) (by first | rfl | (rw [ho1]; rfl)) ?_
    refine lv_ifnullN (tgt := 34) hx hb dX8_fill_21 (by decide) ?_
    exact absurd ho1 h4
  · refine top_v (y := .ref (ja 5 k1)) (by first | rfl | (rw [ho1]; rfl)) ?_
    have hlt_k1 : k1 < nR M := carA_lt ho1
    refine lv_ifnull hx hb dX8_fill_21 ?_
    exact jx_ISE hC hl9 hT9 hex hlk hl.1 (text := "the tray is carried") (by decide) ⟨Nat.le_of_ble_eq_true rfl, Nat.le_of_ble_eq_true rfl, Nat.le_refl _, Nat.le_refl _⟩ (by decide) hQ dX8_fill_24 dX8_fill_27 dX8_fill_28 dX8_fill_30 dX8_fill_33
set_option maxHeartbeats 4000000 in
set_option maxRecDepth 100000 in
theorem cJ_X8_die (l : Launch) (G : gG) (d0 mi : Nat) (Rf : Nat → Prop) (ja : Nat → Nat → Nat) (M : MS) (E : ES) (r : Nat) (c0 : Nat) (h1 : r < nR M) (e18 : M 18 r = nI c0) (hc0 : c0 < 64) (h2 : ¬ M 20 r = 5) : Met l yX8_die (wB yX8_die cX8_die 3 (some .int)) (rmL 6 0 0) (va_Pc [.ref (ja 8 0), .int (nI r)] (jB G d0 mi Rf ja M E)) (va_Qi (S := Unit) (fun v9 _ => v9 = dwM M r 21 r ∧ True) (fun _ z9 => WJ G d0 Rf ja (dwM M r) (eD_ E (fun q => if q = c0 then true else eD E q)) z9.heap) (jA Rf)) 0 0 (jA Rf) := by
  refine st_N (own := RX8) (by decide +kernel) rfl (Nat.le_of_ble_eq_true rfl) ?_
  intro p e s m below meth c ls args Q hQ hC hr hlk hnm hl hP
  obtain ⟨hW, hX, hRf⟩ := hP
  have hK := hX.1
  have hx := hC.1
  have hb := hC.2.1
  have hl : lv_has ls 3 [(0, .ref (ja 8 0)), (1, .int (nI r))] := hl
  obtain ⟨H, locs, hHe, hLe⟩ : ∃ (H : Heap) (locs : List Loc), H = s.heap ∧ locs = [] := ⟨_, _, rfl, rfl⟩
  rw [← hHe] at hW
  have hS : va_S (jA Rf) s.heap H locs := by rw [hHe, hLe]; exact va_S.rf
  suffices hgo : W p l e (rmL 6 0 0) s m args below meth c H locs 0 0 Q (F0 m 0 ls []) by
    rw [hHe, hLe] at hgo
    exact hgo
  clear hHe hLe
  refine lv_aload_n hx hb dX8_die_0 rfl (lv_at hl 0 rfl) ?_
  refine lv_iload_n hx hb dX8_die_1 rfl (lv_at hl 1 rfl) ?_
  refine cl_p (run_V hC (cJ_X8_findRobot l G d0 mi Rf ja M E r (by omega)) (As := [.int (nI r)]) (rest := []) rfl rfl ml_X8_198 im_X8_findRobot se_X8_findRobot ini_X8 cd_X8_findRobot ⟨rfl, na_X8_findRobot⟩ jB_blind (hW.recv hK (show jV M 8 0 from rfl) rfl) (jB_at hX hRf hW hS) hl.1 (Nat.le_of_ble_eq_true rfl) ⟨Nat.le_of_ble_eq_true rfl, Nat.le_of_ble_eq_true rfl⟩ ⟨Nat.le_refl _, Nat.le_refl _⟩ rfl dX8_die_2) ?_
  refine lv_astore_n (lv' := [(2, .ref (ja 5 r)), (0, .ref (ja 8 0)), (1, .int (nI r))]) hx hb dX8_die_5 rfl hl (by decide) rfl (fun ls hl => ?_)
  refine lv_aload_n hx hb dX8_die_6 rfl (lv_at hl 0 rfl) ?_
  refine r1_get hC hK.1 (hW.ob (show jV M 5 r from (by show r < nR M; omega))) lay_X5 rfl 3 (by decide) fl_X8_201 (fun x hx => hx) (v := .int (M 20 r)) rfl dX8_die_7 ?_
  refine lv_iconst (v := 5) hx hb dX8_die_10 (by decide) ?_
  refine lv_icmp_ne (tgt := 24) hx hb dX8_die_11 (by decide) (fun c_1t => ?_) (fun c_1f => ?_)
  · refine lv_aload_n hx hb dX8_die_24 rfl (lv_at hl 0 rfl) ?_
    refine jcl_v (run_V hC (cJ_X5_breakDown l G d0 mi Rf ja M E r (show r < nR M from (by show r < nR M; omega))) (As := []) (rest := []) rfl rfl ml_X8_206 im_X5_breakDown se_X5_breakDown ini_X5 cd_X5_breakDown ⟨rfl, na_X5_breakDown⟩ jB_blind (hW.recv hK (show jV M 5 r from (by show r < nR M; omega)) rfl) (jB_at hX hRf hW hS) hl.1 (Nat.le_of_ble_eq_true rfl) ⟨Nat.le_of_ble_eq_true rfl, Nat.le_of_ble_eq_true rfl⟩ ⟨Nat.le_refl _, Nat.le_refl _⟩ rfl dX8_die_25) hS (fun H locs hW hS => ?_)
    have e18b : dwM M r 18 r = nI c0 := by rw [dw_18]; exact e18
    have k9 : nR (dwM M r) = nR M := by unfold dwM; split <;> rfl
    refine lv_aload_n hx hb dX8_die_28 rfl (lv_at hl 1 rfl) ?_
    refine r1_get hC hK.1 (hW.ob (show jV (dwM M r) 8 0 from rfl)) lay_X8 rfl 0 (by decide) fl_X8_10 (fun x hx => hx) (v := .ref (ja 0 0)) rfl dX8_die_29 ?_
    refine r1_get hC hK.1 (hW.ob (show jV (dwM M r) 0 0 from rfl)) lay_X0 rfl 0 (by decide) fl_X8_40 (fun x hx => hx) (v := .ref (ja 1 0)) rfl dX8_die_32 ?_
    refine lv_aload_n hx hb dX8_die_35 rfl (lv_at hl 0 rfl) ?_
    refine r1_get hC hK.1 (hW.ob (show jV (dwM M r) 5 r from (by show r < nR (dwM M r); omega))) lay_X5 rfl 2 (by decide) fl_X8_188 (fun x hx => hx) (v := .int (nI c0)) (congrArg (fun z => some (Value.int z)) e18b) dX8_die_36 ?_
    refine lv_iconst (v := 1) hx hb dX8_die_39 (by decide) ?_
    refine jcl_v (run_V hC (cJ_X1_markDead l G d0 mi Rf ja (dwM M r) E c0 true (by omega)) (As := [.int (nI c0), .int 1]) (rest := []) rfl rfl ml_X8_209 im_X1_markDead se_X1_markDead ini_X1 cd_X1_markDead ⟨rfl, na_X1_markDead⟩ jB_blind (hW.recv hK (show jV (dwM M r) 1 0 from rfl) rfl) (jB_at hX hRf hW hS) hl.1 (Nat.le_of_ble_eq_true rfl) ⟨Nat.le_of_ble_eq_true rfl, Nat.le_of_ble_eq_true rfl⟩ ⟨Nat.le_refl _, Nat.le_refl _⟩ rfl dX8_die_40) hS (fun H locs hW hS => ?_)
    refine lv_aload_n hx hb dX8_die_43 rfl (lv_at hl 0 rfl) ?_
    rcases (hW.pt.1 _ (show r < nR (dwM M r) from (by show r < nR (dwM M r); omega))).1 with hq4 | ⟨t4, ht4, hq4⟩
    · refine r1_get hC hK.1 (hW.ob (show jV (dwM M r) 5 r from (by show r < nR (dwM M r); omega))) lay_X5 rfl 4 (by decide) fl_X8_212 (fun x hx => hx) (v := .null) (show some (va_rf (jp ja 7 ((dwM M r) 21 r))) = _ by rw [show (dwM M r) 21 r = -1 from hq4, jp_n]; rfl) dX8_die_44 ?_
      refine cl_p (run_S hC (cJ_X8_numberOfN l) (As := [.null]) (rest := []) rfl rfl ml_X8_216 sm_X8_numberOf ini_X8 cd_X8_numberOf na_X8_numberOf tB_blind (fun _ _ _ => trivial) hl.1 (Nat.le_of_ble_eq_true rfl) ⟨Nat.le_of_ble_eq_true rfl, Nat.le_of_ble_eq_true rfl⟩ ⟨Nat.le_refl _, Nat.le_refl _⟩ rfl dX8_die_47) ?_
      subst hQ
      exact rt_qi () hx hb hr hlk hS ⟨by rw [hq4], trivial⟩ (fun t ht _ => by show WJ G d0 Rf ja _ _ t.heap; rw [ht]; exact hW) (by show 0 ≤ 0; omega) (by show 0 ≤ 0; omega) dX8_die_50
    · have hb4_ := hW.cnt.T16
      refine r1_get hC hK.1 (hW.ob (show jV (dwM M r) 5 r from (by show r < nR (dwM M r); omega))) lay_X5 rfl 4 (by decide) fl_X8_212 (fun x hx => hx) (v := .ref (ja 7 t4)) (show some (va_rf (jp ja 7 ((dwM M r) 21 r))) = _ by rw [show (dwM M r) 21 r = nI t4 from hq4, jp_s _ (by omega)]; rfl) dX8_die_44 ?_
      refine cl_p (run_S hC (cJ_X8_numberOf l G d0 mi Rf ja (dwM M r) (eD_ E (fun q => if q = c0 then true else eD E q)) t4 (show t4 < nT (dwM M r) from ht4)) (As := [.ref (ja 7 t4)]) (rest := []) rfl rfl ml_X8_216 sm_X8_numberOf ini_X8 cd_X8_numberOf na_X8_numberOf jB_blind (jB_at hX hRf hW hS) hl.1 (Nat.le_of_ble_eq_true rfl) ⟨Nat.le_of_ble_eq_true rfl, Nat.le_of_ble_eq_true rfl⟩ ⟨Nat.le_refl _, Nat.le_refl _⟩ rfl dX8_die_47) ?_
      subst hQ
      exact rt_qi () hx hb hr hlk hS ⟨by rw [hq4], trivial⟩ (fun t ht _ => by show WJ G d0 Rf ja _ _ t.heap; rw [ht]; exact hW) (by show 0 ≤ 0; omega) (by show 0 ≤ 0; omega) dX8_die_50
  · exact absurd c_1f h2
set_option maxHeartbeats 4000000 in
set_option maxRecDepth 100000 in
theorem cJ_X8_dieX1 (l : Launch) (G : gG) (d0 mi : Nat) (Rf : Nat → Prop) (ja : Nat → Nat → Nat) (M : MS) (E : ES) (x : Int32) (hno : inB x (nI (nR M)) = false) (hl9 : l.stackTraces = false) : vx_Met l yX8_die (wB yX8_die cX8_die 3 (some .int)) (rmL 6 1 6) (va_Pc [.ref (ja 8 0), .int x] (jT G d0 mi Rf ja M E)) xQ (xN xIOE) 1 6 (jA Rf) := by
  refine st_X (own := RX8) (by decide +kernel) rfl (Nat.le_of_ble_eq_true rfl) ?_
  intro p e s m below meth c ls args Q hQ hC hr hlk hex hl hP
  obtain ⟨⟨hW, hX, hRf⟩, hT9⟩ := hP
  have hK := hX.1
  have hx := hC.1
  have hb := hC.2.1
  have hl : lv_has ls 3 [(0, .ref (ja 8 0)), (1, .int x)] := hl
  have hS : va_S (jA Rf) s.heap s.heap [] := va_S.rf
  refine lv_aload_n hx hb dX8_die_0 rfl (lv_at hl 0 rfl) ?_
  refine lv_iload_n hx hb dX8_die_1 rfl (lv_at hl 1 rfl) ?_
  exact jx_call (run_VX hC (cJ_X8_findRobotX l G d0 mi Rf ja M E x (by assumption) hl9) (As := [.int x]) (rest := []) rfl rfl ml_X8_198 im_X8_findRobot se_X8_findRobot ini_X8 cd_X8_findRobot ⟨rfl, na_X8_findRobot⟩ jT_blind (hW.recv hK (show jV M 8 0 from rfl) rfl) (jT_at hX hT9 hRf hW hS) hl.1 (Nat.le_of_ble_eq_true rfl) ⟨Nat.le_of_ble_eq_true rfl, Nat.le_of_ble_eq_true rfl⟩ ⟨Nat.le_refl _, Nat.le_refl _⟩ rfl dX8_die_2) hQ hex hlk
set_option maxHeartbeats 4000000 in
set_option maxRecDepth 100000 in
theorem cJ_X8_dieX2 (l : Launch) (G : gG) (d0 mi : Nat) (Rf : Nat → Prop) (ja : Nat → Nat → Nat) (M : MS) (E : ES) (r : Nat) (h1 : r < nR M) (h2 : M 20 r = 5) (hl9 : l.stackTraces = false) : vx_Met l yX8_die (wB yX8_die cX8_die 3 (some .int)) (rmL 6 1 6) (va_Pc [.ref (ja 8 0), .int (nI r)] (jT G d0 mi Rf ja M E)) xQ (xN xISE) 1 6 (jA Rf) := by
  refine st_X (own := RX8) (by decide +kernel) rfl (Nat.le_of_ble_eq_true rfl) ?_
  intro p e s m below meth c ls args Q hQ hC hr hlk hex hl hP
  obtain ⟨⟨hW, hX, hRf⟩, hT9⟩ := hP
  have hK := hX.1
  have hx := hC.1
  have hb := hC.2.1
  have hl : lv_has ls 3 [(0, .ref (ja 8 0)), (1, .int (nI r))] := hl
  have hS : va_S (jA Rf) s.heap s.heap [] := va_S.rf
  refine lv_aload_n hx hb dX8_die_0 rfl (lv_at hl 0 rfl) ?_
  refine lv_iload_n hx hb dX8_die_1 rfl (lv_at hl 1 rfl) ?_
  refine cl_p (run_V hC (cJ_X8_findRobot l G d0 mi Rf ja M E r (by omega)) (As := [.int (nI r)]) (rest := []) rfl rfl ml_X8_198 im_X8_findRobot se_X8_findRobot ini_X8 cd_X8_findRobot ⟨rfl, na_X8_findRobot⟩ jB_blind (hW.recv hK (show jV M 8 0 from rfl) rfl) (jB_at hX hRf hW hS) hl.1 (Nat.le_of_ble_eq_true rfl) ⟨Nat.le_of_ble_eq_true rfl, Nat.le_of_ble_eq_true rfl⟩ ⟨by show 0 + 0 ≤ 1; omega, by show 0 + 0 ≤ 6; omega⟩ rfl dX8_die_2) ?_
  refine lv_astore_n (lv' := [(2, .ref (ja 5 r)), (0, .ref (ja 8 0)), (1, .int (nI r))]) hx hb dX8_die_5 rfl hl (by decide) rfl (fun ls hl => ?_)
  refine lv_aload_n hx hb dX8_die_6 rfl (lv_at hl 0 rfl) ?_
  refine r1_get hC hK.1 (hW.ob (show jV M 5 r from (by show r < nR M; omega))) lay_X5 rfl 3 (by decide) fl_X8_201 (fun x hx => hx) (v := .int (M 20 r)) rfl dX8_die_7 ?_
  refine lv_iconst (v := 5) hx hb dX8_die_10 (by decide) ?_
  refine lv_icmp_ne (tgt := 24) hx hb dX8_die_11 (by decide) (fun c_1t => ?_) (fun c_1f => ?_)
  · exact absurd h2 c_1t
  · exact jx_ISE hC hl9 hT9 hex hlk hl.1 (text := "the robot is dead") (by decide) ⟨Nat.le_of_ble_eq_true rfl, Nat.le_of_ble_eq_true rfl, Nat.le_refl _, Nat.le_refl _⟩ (by decide) hQ dX8_die_14 dX8_die_17 dX8_die_18 dX8_die_20 dX8_die_23
set_option maxHeartbeats 4000000 in
set_option maxRecDepth 100000 in
theorem cJ_X8_repair (l : Launch) (G : gG) (d0 mi : Nat) (Rf : Nat → Prop) (ja : Nat → Nat → Nat) (M : MS) (E : ES) (r : Nat) (c0 : Nat) (h1 : r < nR M) (e18 : M 18 r = nI c0) (hc0 : c0 < 64) (h2 : M 20 r = 5) : Met l yX8_repair (wB yX8_repair cX8_repair 3 (some .int)) (rmL 6 0 0) (va_Pc [.ref (ja 8 0), .int (nI r)] (jB G d0 mi Rf ja M E)) (va_Qi (S := Unit) (fun v9 _ => v9 = rpX M r ∧ True) (fun _ z9 => WJ G d0 Rf ja (bcM M r (rpX M r)) (eD_ E (fun q => if q = c0 then false else eD E q)) z9.heap) (jA Rf)) 0 0 (jA Rf) := by
  refine st_N (own := RX8) (by decide +kernel) rfl (Nat.le_of_ble_eq_true rfl) ?_
  intro p e s m below meth c ls args Q hQ hC hr hlk hnm hl hP
  obtain ⟨hW, hX, hRf⟩ := hP
  have hK := hX.1
  have hx := hC.1
  have hb := hC.2.1
  have hl : lv_has ls 3 [(0, .ref (ja 8 0)), (1, .int (nI r))] := hl
  obtain ⟨H, locs, hHe, hLe⟩ : ∃ (H : Heap) (locs : List Loc), H = s.heap ∧ locs = [] := ⟨_, _, rfl, rfl⟩
  rw [← hHe] at hW
  have hS : va_S (jA Rf) s.heap H locs := by rw [hHe, hLe]; exact va_S.rf
  suffices hgo : W p l e (rmL 6 0 0) s m args below meth c H locs 0 0 Q (F0 m 0 ls []) by
    rw [hHe, hLe] at hgo
    exact hgo
  clear hHe hLe
  refine lv_aload_n hx hb dX8_repair_0 rfl (lv_at hl 0 rfl) ?_
  refine lv_iload_n hx hb dX8_repair_1 rfl (lv_at hl 1 rfl) ?_
  refine cl_p (run_V hC (cJ_X8_findRobot l G d0 mi Rf ja M E r (by omega)) (As := [.int (nI r)]) (rest := []) rfl rfl ml_X8_198 im_X8_findRobot se_X8_findRobot ini_X8 cd_X8_findRobot ⟨rfl, na_X8_findRobot⟩ jB_blind (hW.recv hK (show jV M 8 0 from rfl) rfl) (jB_at hX hRf hW hS) hl.1 (Nat.le_of_ble_eq_true rfl) ⟨Nat.le_of_ble_eq_true rfl, Nat.le_of_ble_eq_true rfl⟩ ⟨Nat.le_refl _, Nat.le_refl _⟩ rfl dX8_repair_2) ?_
  refine lv_astore_n (lv' := [(2, .ref (ja 5 r)), (0, .ref (ja 8 0)), (1, .int (nI r))]) hx hb dX8_repair_5 rfl hl (by decide) rfl (fun ls hl => ?_)
  refine lv_aload_n hx hb dX8_repair_6 rfl (lv_at hl 0 rfl) ?_
  refine r1_get hC hK.1 (hW.ob (show jV M 5 r from h1)) lay_X5 rfl 3 (by decide) fl_X8_201 (fun x hx => hx) (v := .int (M 20 r)) rfl dX8_repair_7 ?_
  refine lv_iconst (v := 5) hx hb dX8_repair_10 (by decide) ?_
  refine lv_icmp_eq (tgt := 24) hx hb dX8_repair_11 (by decide) (fun c_1t => ?_) (fun c_1f => ?_)
  · refine lv_aload_n hx hb dX8_repair_24 rfl (lv_at hl 0 rfl) ?_
    refine lv_aload_n hx hb dX8_repair_25 rfl (lv_at hl 0 rfl) ?_
    rcases (hW.pt.1 _ (show r < nR M from h1)).1 with hq2 | ⟨t2, ht2, hq2⟩
    · refine r1_get hC hK.1 (hW.ob (show jV M 5 r from h1)) lay_X5 rfl 4 (by decide) fl_X8_212 (fun x hx => hx) (v := .null) (show some (va_rf (jp ja 7 (M 21 r))) = _ by rw [show M 21 r = -1 from hq2, jp_n]; rfl) dX8_repair_26 ?_
      refine lv_ifnonnullN hx hb dX8_repair_29 ?_
      refine lv_iconst (v := 0) hx hb dX8_repair_32 (by decide) ?_
      refine lv_goto (tgt := 37) hx hb dX8_repair_33 (by decide) ?_
      refine jcl_v (run_V hC (cJ_X5_become l G d0 mi Rf ja M E r 0 (show r < nR M from h1)) (As := [.int 0]) (rest := []) rfl rfl ml_X8_222 im_X5_become se_X5_become ini_X5 cd_X5_become ⟨rfl, na_X5_become⟩ jB_blind (hW.recv hK (show jV M 5 r from h1) rfl) (jB_at hX hRf hW hS) hl.1 (Nat.le_of_ble_eq_true rfl) ⟨Nat.le_of_ble_eq_true rfl, Nat.le_of_ble_eq_true rfl⟩ ⟨Nat.le_refl _, Nat.le_refl _⟩ rfl dX8_repair_37) hS (fun H locs hW hS => ?_)
      have e18b : (bcM M r 0) 18 r = nI c0 := e18
      refine lv_aload_n hx hb dX8_repair_40 rfl (lv_at hl 1 rfl) ?_
      refine r1_get hC hK.1 (hW.ob (show jV (bcM M r 0) 8 0 from rfl)) lay_X8 rfl 0 (by decide) fl_X8_10 (fun x hx => hx) (v := .ref (ja 0 0)) rfl dX8_repair_41 ?_
      refine r1_get hC hK.1 (hW.ob (show jV (bcM M r 0) 0 0 from rfl)) lay_X0 rfl 0 (by decide) fl_X8_40 (fun x hx => hx) (v := .ref (ja 1 0)) rfl dX8_repair_44 ?_
      refine lv_aload_n hx hb dX8_repair_47 rfl (lv_at hl 0 rfl) ?_
      refine r1_get hC hK.1 (hW.ob (show jV (bcM M r 0) 5 r from h1)) lay_X5 rfl 2 (by decide) fl_X8_188 (fun x hx => hx) (v := .int (nI c0)) (congrArg (fun z => some (Value.int z)) e18b) dX8_repair_48 ?_
      refine lv_iconst (v := 0) hx hb dX8_repair_51 (by decide) ?_
      refine jcl_v (run_V hC (cJ_X1_markDead l G d0 mi Rf ja (bcM M r 0) E c0 false (by omega)) (As := [.int (nI c0), .int 0]) (rest := []) rfl rfl ml_X8_209 im_X1_markDead se_X1_markDead ini_X1 cd_X1_markDead ⟨rfl, na_X1_markDead⟩ jB_blind (hW.recv hK (show jV (bcM M r 0) 1 0 from rfl) rfl) (jB_at hX hRf hW hS) hl.1 (Nat.le_of_ble_eq_true rfl) ⟨Nat.le_of_ble_eq_true rfl, Nat.le_of_ble_eq_true rfl⟩ ⟨Nat.le_refl _, Nat.le_refl _⟩ rfl dX8_repair_52) hS (fun H locs hW hS => ?_)
      refine lv_aload_n hx hb dX8_repair_55 rfl (lv_at hl 0 rfl) ?_
      refine r1_get hC hK.1 (hW.ob (show jV (bcM M r 0) 5 r from h1)) lay_X5 rfl 3 (by decide) fl_X8_201 (fun x hx => hx) (v := .int ((bcM M r 0) 20 r)) rfl dX8_repair_56 ?_
      subst hQ
      have hr9 : rpX M r = 0 := if_pos hq2
      rw [← hr9] at hW
      exact rt_qi () hx hb hr hlk hS ⟨by rw [hr9]; show upd (M 20) r _ r = _; rw [upd_s], trivial⟩ (fun t ht _ => by show WJ G d0 Rf ja _ _ t.heap; rw [ht]; exact hW) (by show 0 ≤ 0; omega) (by show 0 ≤ 0; omega) dX8_repair_59
    · have hb2_ := hW.cnt.T16
      refine r1_get hC hK.1 (hW.ob (show jV M 5 r from h1)) lay_X5 rfl 4 (by decide) fl_X8_212 (fun x hx => hx) (v := .ref (ja 7 t2)) (show some (va_rf (jp ja 7 (M 21 r))) = _ by rw [show M 21 r = nI t2 from hq2, jp_s _ (by omega)]; rfl) dX8_repair_26 ?_
      refine lv_ifnonnull (tgt := 36) hx hb dX8_repair_29 (by decide) ?_
      refine lv_iconst (v := 4) hx hb dX8_repair_36 (by decide) ?_
      refine jcl_v (run_V hC (cJ_X5_become l G d0 mi Rf ja M E r 4 (show r < nR M from h1)) (As := [.int 4]) (rest := []) rfl rfl ml_X8_222 im_X5_become se_X5_become ini_X5 cd_X5_become ⟨rfl, na_X5_become⟩ jB_blind (hW.recv hK (show jV M 5 r from h1) rfl) (jB_at hX hRf hW hS) hl.1 (Nat.le_of_ble_eq_true rfl) ⟨Nat.le_of_ble_eq_true rfl, Nat.le_of_ble_eq_true rfl⟩ ⟨Nat.le_refl _, Nat.le_refl _⟩ rfl dX8_repair_37) hS (fun H locs hW hS => ?_)
      have e18b : (bcM M r 4) 18 r = nI c0 := e18
      refine lv_aload_n hx hb dX8_repair_40 rfl (lv_at hl 1 rfl) ?_
      refine r1_get hC hK.1 (hW.ob (show jV (bcM M r 4) 8 0 from rfl)) lay_X8 rfl 0 (by decide) fl_X8_10 (fun x hx => hx) (v := .ref (ja 0 0)) rfl dX8_repair_41 ?_
      refine r1_get hC hK.1 (hW.ob (show jV (bcM M r 4) 0 0 from rfl)) lay_X0 rfl 0 (by decide) fl_X8_40 (fun x hx => hx) (v := .ref (ja 1 0)) rfl dX8_repair_44 ?_
      refine lv_aload_n hx hb dX8_repair_47 rfl (lv_at hl 0 rfl) ?_
      refine r1_get hC hK.1 (hW.ob (show jV (bcM M r 4) 5 r from h1)) lay_X5 rfl 2 (by decide) fl_X8_188 (fun x hx => hx) (v := .int (nI c0)) (congrArg (fun z => some (Value.int z)) e18b) dX8_repair_48 ?_
      refine lv_iconst (v := 0) hx hb dX8_repair_51 (by decide) ?_
      refine jcl_v (run_V hC (cJ_X1_markDead l G d0 mi Rf ja (bcM M r 4) E c0 false (by omega)) (As := [.int (nI c0), .int 0]) (rest := []) rfl rfl ml_X8_209 im_X1_markDead se_X1_markDead ini_X1 cd_X1_markDead ⟨rfl, na_X1_markDead⟩ jB_blind (hW.recv hK (show jV (bcM M r 4) 1 0 from rfl) rfl) (jB_at hX hRf hW hS) hl.1 (Nat.le_of_ble_eq_true rfl) ⟨Nat.le_of_ble_eq_true rfl, Nat.le_of_ble_eq_true rfl⟩ ⟨Nat.le_refl _, Nat.le_refl _⟩ rfl dX8_repair_52) hS (fun H locs hW hS => ?_)
      refine lv_aload_n hx hb dX8_repair_55 rfl (lv_at hl 0 rfl) ?_
      refine r1_get hC hK.1 (hW.ob (show jV (bcM M r 4) 5 r from h1)) lay_X5 rfl 3 (by decide) fl_X8_201 (fun x hx => hx) (v := .int ((bcM M r 4) 20 r)) rfl dX8_repair_56 ?_
      subst hQ
      have hr9 : rpX M r = 4 := if_neg (by rw [hq2]; exact nI_m1 (by omega))
      rw [← hr9] at hW
      exact rt_qi () hx hb hr hlk hS ⟨by rw [hr9]; show upd (M 20) r _ r = _; rw [upd_s], trivial⟩ (fun t ht _ => by show WJ G d0 Rf ja _ _ t.heap; rw [ht]; exact hW) (by show 0 ≤ 0; omega) (by show 0 ≤ 0; omega) dX8_repair_59
  · exact absurd h2 c_1f
set_option maxHeartbeats 4000000 in
set_option maxRecDepth 100000 in
theorem cJ_X8_repairX1 (l : Launch) (G : gG) (d0 mi : Nat) (Rf : Nat → Prop) (ja : Nat → Nat → Nat) (M : MS) (E : ES) (x : Int32) (hno : inB x (nI (nR M)) = false) (hl9 : l.stackTraces = false) : vx_Met l yX8_repair (wB yX8_repair cX8_repair 3 (some .int)) (rmL 6 1 6) (va_Pc [.ref (ja 8 0), .int x] (jT G d0 mi Rf ja M E)) xQ (xN xIOE) 1 6 (jA Rf) := by
  refine st_X (own := RX8) (by decide +kernel) rfl (Nat.le_of_ble_eq_true rfl) ?_
  intro p e s m below meth c ls args Q hQ hC hr hlk hex hl hP
  obtain ⟨⟨hW, hX, hRf⟩, hT9⟩ := hP
  have hK := hX.1
  have hx := hC.1
  have hb := hC.2.1
  have hl : lv_has ls 3 [(0, .ref (ja 8 0)), (1, .int x)] := hl
  have hS : va_S (jA Rf) s.heap s.heap [] := va_S.rf
  refine lv_aload_n hx hb dX8_repair_0 rfl (lv_at hl 0 rfl) ?_
  refine lv_iload_n hx hb dX8_repair_1 rfl (lv_at hl 1 rfl) ?_
  exact jx_call (run_VX hC (cJ_X8_findRobotX l G d0 mi Rf ja M E x (by assumption) hl9) (As := [.int x]) (rest := []) rfl rfl ml_X8_198 im_X8_findRobot se_X8_findRobot ini_X8 cd_X8_findRobot ⟨rfl, na_X8_findRobot⟩ jT_blind (hW.recv hK (show jV M 8 0 from rfl) rfl) (jT_at hX hT9 hRf hW hS) hl.1 (Nat.le_of_ble_eq_true rfl) ⟨Nat.le_of_ble_eq_true rfl, Nat.le_of_ble_eq_true rfl⟩ ⟨Nat.le_refl _, Nat.le_refl _⟩ rfl dX8_repair_2) hQ hex hlk
set_option maxHeartbeats 4000000 in
set_option maxRecDepth 100000 in
theorem cJ_X8_repairX2 (l : Launch) (G : gG) (d0 mi : Nat) (Rf : Nat → Prop) (ja : Nat → Nat → Nat) (M : MS) (E : ES) (r : Nat) (h1 : r < nR M) (h2 : ¬ M 20 r = 5) (hl9 : l.stackTraces = false) : vx_Met l yX8_repair (wB yX8_repair cX8_repair 3 (some .int)) (rmL 6 1 6) (va_Pc [.ref (ja 8 0), .int (nI r)] (jT G d0 mi Rf ja M E)) xQ (xN xISE) 1 6 (jA Rf) := by
  refine st_X (own := RX8) (by decide +kernel) rfl (Nat.le_of_ble_eq_true rfl) ?_
  intro p e s m below meth c ls args Q hQ hC hr hlk hex hl hP
  obtain ⟨⟨hW, hX, hRf⟩, hT9⟩ := hP
  have hK := hX.1
  have hx := hC.1
  have hb := hC.2.1
  have hl : lv_has ls 3 [(0, .ref (ja 8 0)), (1, .int (nI r))] := hl
  have hS : va_S (jA Rf) s.heap s.heap [] := va_S.rf
  refine lv_aload_n hx hb dX8_repair_0 rfl (lv_at hl 0 rfl) ?_
  refine lv_iload_n hx hb dX8_repair_1 rfl (lv_at hl 1 rfl) ?_
  refine cl_p (run_V hC (cJ_X8_findRobot l G d0 mi Rf ja M E r (by omega)) (As := [.int (nI r)]) (rest := []) rfl rfl ml_X8_198 im_X8_findRobot se_X8_findRobot ini_X8 cd_X8_findRobot ⟨rfl, na_X8_findRobot⟩ jB_blind (hW.recv hK (show jV M 8 0 from rfl) rfl) (jB_at hX hRf hW hS) hl.1 (Nat.le_of_ble_eq_true rfl) ⟨Nat.le_of_ble_eq_true rfl, Nat.le_of_ble_eq_true rfl⟩ ⟨by show 0 + 0 ≤ 1; omega, by show 0 + 0 ≤ 6; omega⟩ rfl dX8_repair_2) ?_
  refine lv_astore_n (lv' := [(2, .ref (ja 5 r)), (0, .ref (ja 8 0)), (1, .int (nI r))]) hx hb dX8_repair_5 rfl hl (by decide) rfl (fun ls hl => ?_)
  refine lv_aload_n hx hb dX8_repair_6 rfl (lv_at hl 0 rfl) ?_
  refine r1_get hC hK.1 (hW.ob (show jV M 5 r from (by show r < nR M; omega))) lay_X5 rfl 3 (by decide) fl_X8_201 (fun x hx => hx) (v := .int (M 20 r)) rfl dX8_repair_7 ?_
  refine lv_iconst (v := 5) hx hb dX8_repair_10 (by decide) ?_
  refine lv_icmp_eq (tgt := 24) hx hb dX8_repair_11 (by decide) (fun c_1t => ?_) (fun c_1f => ?_)
  · exact absurd c_1t h2
  · exact jx_ISE hC hl9 hT9 hex hlk hl.1 (text := "the robot is not dead") (by decide) ⟨Nat.le_of_ble_eq_true rfl, Nat.le_of_ble_eq_true rfl, Nat.le_refl _, Nat.le_refl _⟩ (by decide) hQ dX8_repair_14 dX8_repair_17 dX8_repair_18 dX8_repair_20 dX8_repair_23
