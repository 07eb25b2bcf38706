set_option maxHeartbeats 4000000 in
set_option maxRecDepth 100000 in
theorem c9_neighbour (l : Launch) (j : Nat) (way : Nat) (hj : j < 64) (hw : way < 4) : Met l yX9_neighbour (wB yX9_neighbour cX9_neighbour 4 (some .int)) (rmL 1 0 0) (va_Pc [.int (nI j), .int (nI way)] (fun _ => True)) (k2_QcV (.int (oI (nbr j way)))) 0 0 fN := by
  refine st_N (own := RX9) (by decide +kernel) rfl (Nat.le_of_ble_eq_true rfl) ?_
  intro p e s m below meth c ls args Q hQ hC hr hlk hnm hl hP
  have hx := hC.1
  have hb := hC.2.1
  have hl : lv_has ls 4 [(0, .int (nI j)), (1, .int (nI way))] := hl
  refine lv_iload_n hx hb dX9_neighbour_0 rfl (lv_at hl 0 rfl) ?_
  refine lv_bipush (v := 8) hx hb dX9_neighbour_1 (by decide) ?_
  refine lv_irem hx hb dX9_neighbour_3 (by decide) ?_
  refine top_i (y := nI (j % 8)) (pk_rem (a := j) (d := 8) (by omega) (by decide) (by decide)) ?_
  refine lv_iload_n hx hb dX9_neighbour_4 rfl (lv_at hl 1 rfl) ?_
  refine lv_iconst (v := 1) hx hb dX9_neighbour_5 (by decide) ?_
  refine ln_ne (tgt := 13) (a := way) (b := 1) hx hb dX9_neighbour_6 (by decide) rfl rfl (by omega) (by omega) (fun c_1t => ?_) (fun c_1f => ?_)
  · refine lv_iload_n hx hb dX9_neighbour_13 rfl (lv_at hl 1 rfl) ?_
    refine lv_iconst (v := 2) hx hb dX9_neighbour_14 (by decide) ?_
    refine ln_ne (tgt := 22) (a := way) (b := 2) hx hb dX9_neighbour_15 (by decide) rfl rfl (by omega) (by omega) (fun c_2t => ?_) (fun c_2f => ?_)
    · refine lv_iconst (v := 0) hx hb dX9_neighbour_22 (by decide) ?_
      refine lv_iadd hx hb dX9_neighbour_23 ?_
      refine lv_istore_n (lv' := [(2, .int ((nI (j % 8)) + 0)), (0, .int (nI j)), (1, .int (nI way))]) hx hb dX9_neighbour_24 rfl hl (by decide) rfl (fun ls hl => ?_)
      refine lv_iload_n hx hb dX9_neighbour_25 rfl (lv_at hl 1 rfl) ?_
      refine lv_bipush (v := 8) hx hb dX9_neighbour_26 (by decide) ?_
      refine lv_idiv hx hb dX9_neighbour_28 (by decide) ?_
      refine top_i (y := nI (j / 8)) (pk_div (a := j) (d := 8) (by omega) (by decide) (by decide)) ?_
      refine lv_iload_n hx hb dX9_neighbour_29 rfl (lv_at hl 2 rfl) ?_
      refine lnz_ne (tgt := 37) hx hb dX9_neighbour_30 (by decide) (by omega) (fun c_3t => ?_) (fun c_3f => ?_)
      · refine lv_iload_n hx hb dX9_neighbour_37 rfl (lv_at hl 2 rfl) ?_
        refine lv_iconst (v := 3) hx hb dX9_neighbour_38 (by decide) ?_
        refine ln_ne (tgt := 46) (a := way) (b := 3) hx hb dX9_neighbour_39 (by decide) rfl rfl (by omega) (by omega) (fun c_4t => ?_) (fun c_4f => ?_)
        · refine lv_iconst (v := 0) hx hb dX9_neighbour_46 (by decide) ?_
          refine lv_iadd hx hb dX9_neighbour_47 ?_
          refine lv_istore_n (lv' := [(3, .int ((nI (j / 8)) + 0)), (2, .int ((nI (j % 8)) + 0)), (0, .int (nI j)), (1, .int (nI way))]) hx hb dX9_neighbour_48 rfl hl (by decide) rfl (fun ls hl => ?_)
          refine lv_iload_n hx hb dX9_neighbour_49 rfl (lv_at hl 1 rfl) ?_
          refine lv_bipush (v := 8) hx hb dX9_neighbour_50 (by decide) ?_
          refine cl_p (run_S hC (c9_isIn l ((nI (j % 8)) + 0) 8) (As := [.int ((nI (j % 8)) + 0), .int 8]) (rest := []) rfl rfl ml_X9_99 sm_X9_isIn ini_X9 cd_X9_isIn na_X9_isIn tB_blind (fun _ _ _ => trivial) hl.1 (Nat.le_of_ble_eq_true rfl) ⟨Nat.le_of_ble_eq_true rfl, Nat.le_of_ble_eq_true rfl⟩ ⟨Nat.le_refl _, Nat.le_refl _⟩ rfl dX9_neighbour_52) ?_
          refine lb_eq (tgt := 76) (b := (inB ((nI (j % 8)) + 0) 8)) hx hb dX9_neighbour_55 (by decide) (fun c_5t => ?_) (fun c_5f => ?_)
          · refine lv_iconst (v := (-1)) hx hb dX9_neighbour_76 (by decide) ?_
            subst hQ
            exact rt_i hx hb hr hlk (by first | (exfalso; omega) | (rw [← nbr_ok j hj way hw]; simp (decide := true) only [nbrJ, c_1t, c_2t, c_3t, c_4t, c_5t, reduceIte, Bool.false_eq_true, and_false, false_and, and_true, if_true, if_false])) dX9_neighbour_77
          · refine lv_iload_n hx hb dX9_neighbour_58 rfl (lv_at hl 0 rfl) ?_
            refine lv_bipush (v := 8) hx hb dX9_neighbour_59 (by decide) ?_
            refine cl_p (run_S hC (c9_isIn l ((nI (j / 8)) + 0) 8) (As := [.int ((nI (j / 8)) + 0), .int 8]) (rest := []) rfl rfl ml_X9_99 sm_X9_isIn ini_X9 cd_X9_isIn na_X9_isIn tB_blind (fun _ _ _ => trivial) hl.1 (Nat.le_of_ble_eq_true rfl) ⟨Nat.le_of_ble_eq_true rfl, Nat.le_of_ble_eq_true rfl⟩ ⟨Nat.le_refl _, Nat.le_refl _⟩ rfl dX9_neighbour_61) ?_
            refine lb_eq (tgt := 76) (b := (inB ((nI (j / 8)) + 0) 8)) hx hb dX9_neighbour_64 (by decide) (fun c_6t => ?_) (fun c_6f => ?_)
            · refine lv_iconst (v := (-1)) hx hb dX9_neighbour_76 (by decide) ?_
              subst hQ
              exact rt_i hx hb hr hlk (by first | (exfalso; omega) | (rw [← nbr_ok j hj way hw]; simp (decide := true) only [nbrJ, c_1t, c_2t, c_3t, c_4t, c_5f, c_6t, reduceIte, Bool.false_eq_true, and_false, false_and, and_true, if_true, if_false])) dX9_neighbour_77
            · refine lv_bipush (v := 8) hx hb dX9_neighbour_67 (by decide) ?_
              refine lv_iload_n hx hb dX9_neighbour_69 rfl (lv_at hl 0 rfl) ?_
              refine lv_imul hx hb dX9_neighbour_70 ?_
              refine lv_iload_n hx hb dX9_neighbour_71 rfl (lv_at hl 1 rfl) ?_
              refine lv_iadd hx hb dX9_neighbour_72 ?_
              refine lv_goto (tgt := 77) hx hb dX9_neighbour_73 (by decide) ?_
              subst hQ
              exact rt_i hx hb hr hlk (by first | (exfalso; omega) | (rw [← nbr_ok j hj way hw]; simp (decide := true) only [nbrJ, c_1t, c_2t, c_3t, c_4t, c_5f, c_6f, reduceIte, Bool.false_eq_true, and_false, false_and, and_true, if_true, if_false])) dX9_neighbour_77
        · refine lv_iconst (v := 1) hx hb dX9_neighbour_42 (by decide) ?_
          refine lv_goto (tgt := 47) hx hb dX9_neighbour_43 (by decide) ?_
          refine lv_iadd hx hb dX9_neighbour_47 ?_
          refine lv_istore_n (lv' := [(3, .int ((nI (j / 8)) + 1)), (2, .int ((nI (j % 8)) + 0)), (0, .int (nI j)), (1, .int (nI way))]) hx hb dX9_neighbour_48 rfl hl (by decide) rfl (fun ls hl => ?_)
          refine lv_iload_n hx hb dX9_neighbour_49 rfl (lv_at hl 1 rfl) ?_
          refine lv_bipush (v := 8) hx hb dX9_neighbour_50 (by decide) ?_
          refine cl_p (run_S hC (c9_isIn l ((nI (j % 8)) + 0) 8) (As := [.int ((nI (j % 8)) + 0), .int 8]) (rest := []) rfl rfl ml_X9_99 sm_X9_isIn ini_X9 cd_X9_isIn na_X9_isIn tB_blind (fun _ _ _ => trivial) hl.1 (Nat.le_of_ble_eq_true rfl) ⟨Nat.le_of_ble_eq_true rfl, Nat.le_of_ble_eq_true rfl⟩ ⟨Nat.le_refl _, Nat.le_refl _⟩ rfl dX9_neighbour_52) ?_
          refine lb_eq (tgt := 76) (b := (inB ((nI (j % 8)) + 0) 8)) hx hb dX9_neighbour_55 (by decide) (fun c_7t => ?_) (fun c_7f => ?_)
          · refine lv_iconst (v := (-1)) hx hb dX9_neighbour_76 (by decide) ?_
            subst hQ
            exact rt_i hx hb hr hlk (by first | (exfalso; omega) | (rw [← nbr_ok j hj way hw]; simp (decide := true) only [nbrJ, c_1t, c_2t, c_3t, c_4f, c_7t, reduceIte, Bool.false_eq_true, and_false, false_and, and_true, if_true, if_false])) dX9_neighbour_77
          · refine lv_iload_n hx hb dX9_neighbour_58 rfl (lv_at hl 0 rfl) ?_
            refine lv_bipush (v := 8) hx hb dX9_neighbour_59 (by decide) ?_
            refine cl_p (run_S hC (c9_isIn l ((nI (j / 8)) + 1) 8) (As := [.int ((nI (j / 8)) + 1), .int 8]) (rest := []) rfl rfl ml_X9_99 sm_X9_isIn ini_X9 cd_X9_isIn na_X9_isIn tB_blind (fun _ _ _ => trivial) hl.1 (Nat.le_of_ble_eq_true rfl) ⟨Nat.le_of_ble_eq_true rfl, Nat.le_of_ble_eq_true rfl⟩ ⟨Nat.le_refl _, Nat.le_refl _⟩ rfl dX9_neighbour_61) ?_
            refine lb_eq (tgt := 76) (b := (inB ((nI (j / 8)) + 1) 8)) hx hb dX9_neighbour_64 (by decide) (fun c_8t => ?_) (fun c_8f => ?_)
            · refine lv_iconst (v := (-1)) hx hb dX9_neighbour_76 (by decide) ?_
              subst hQ
              exact rt_i hx hb hr hlk (by first | (exfalso; omega) | (rw [← nbr_ok j hj way hw]; simp (decide := true) only [nbrJ, c_1t, c_2t, c_3t, c_4f, c_7f, c_8t, reduceIte, Bool.false_eq_true, and_false, false_and, and_true, if_true, if_false])) dX9_neighbour_77
            · refine lv_bipush (v := 8) hx hb dX9_neighbour_67 (by decide) ?_
              refine lv_iload_n hx hb dX9_neighbour_69 rfl (lv_at hl 0 rfl) ?_
              refine lv_imul hx hb dX9_neighbour_70 ?_
              refine lv_iload_n hx hb dX9_neighbour_71 rfl (lv_at hl 1 rfl) ?_
              refine lv_iadd hx hb dX9_neighbour_72 ?_
              refine lv_goto (tgt := 77) hx hb dX9_neighbour_73 (by decide) ?_
              subst hQ
              exact rt_i hx hb hr hlk (by first | (exfalso; omega) | (rw [← nbr_ok j hj way hw]; simp (decide := true) only [nbrJ, c_1t, c_2t, c_3t, c_4f, c_7f, c_8f, reduceIte, Bool.false_eq_true, and_false, false_and, and_true, if_true, if_false])) dX9_neighbour_77
      · refine lv_iconst (v := (-1)) hx hb dX9_neighbour_33 (by decide) ?_
        refine lv_goto (tgt := 47) hx hb dX9_neighbour_34 (by decide) ?_
        refine lv_iadd hx hb dX9_neighbour_47 ?_
        refine lv_istore_n (lv' := [(3, .int ((nI (j / 8)) + (-1))), (2, .int ((nI (j % 8)) + 0)), (0, .int (nI j)), (1, .int (nI way))]) hx hb dX9_neighbour_48 rfl hl (by decide) rfl (fun ls hl => ?_)
        refine lv_iload_n hx hb dX9_neighbour_49 rfl (lv_at hl 1 rfl) ?_
        refine lv_bipush (v := 8) hx hb dX9_neighbour_50 (by decide) ?_
        refine cl_p (run_S hC (c9_isIn l ((nI (j % 8)) + 0) 8) (As := [.int ((nI (j % 8)) + 0), .int 8]) (rest := []) rfl rfl ml_X9_99 sm_X9_isIn ini_X9 cd_X9_isIn na_X9_isIn tB_blind (fun _ _ _ => trivial) hl.1 (Nat.le_of_ble_eq_true rfl) ⟨Nat.le_of_ble_eq_true rfl, Nat.le_of_ble_eq_true rfl⟩ ⟨Nat.le_refl _, Nat.le_refl _⟩ rfl dX9_neighbour_52) ?_
        refine lb_eq (tgt := 76) (b := (inB ((nI (j % 8)) + 0) 8)) hx hb dX9_neighbour_55 (by decide) (fun c_9t => ?_) (fun c_9f => ?_)
        · refine lv_iconst (v := (-1)) hx hb dX9_neighbour_76 (by decide) ?_
          subst hQ
          exact rt_i hx hb hr hlk (by first | (exfalso; omega) | (rw [← nbr_ok j hj way hw]; simp (decide := true) only [nbrJ, c_1t, c_2t, c_3f, c_9t, reduceIte, Bool.false_eq_true, and_false, false_and, and_true, if_true, if_false])) dX9_neighbour_77
        · refine lv_iload_n hx hb dX9_neighbour_58 rfl (lv_at hl 0 rfl) ?_
          refine lv_bipush (v := 8) hx hb dX9_neighbour_59 (by decide) ?_
          refine cl_p (run_S hC (c9_isIn l ((nI (j / 8)) + (-1)) 8) (As := [.int ((nI (j / 8)) + (-1)), .int 8]) (rest := []) rfl rfl ml_X9_99 sm_X9_isIn ini_X9 cd_X9_isIn na_X9_isIn tB_blind (fun _ _ _ => trivial) hl.1 (Nat.le_of_ble_eq_true rfl) ⟨Nat.le_of_ble_eq_true rfl, Nat.le_of_ble_eq_true rfl⟩ ⟨Nat.le_refl _, Nat.le_refl _⟩ rfl dX9_neighbour_61) ?_
          refine lb_eq (tgt := 76) (b := (inB ((nI (j / 8)) + (-1)) 8)) hx hb dX9_neighbour_64 (by decide) (fun c_10t => ?_) (fun c_10f => ?_)
          · refine lv_iconst (v := (-1)) hx hb dX9_neighbour_76 (by decide) ?_
            subst hQ
            exact rt_i hx hb hr hlk (by first | (exfalso; omega) | (rw [← nbr_ok j hj way hw]; simp (decide := true) only [nbrJ, c_1t, c_2t, c_3f, c_9f, c_10t, reduceIte, Bool.false_eq_true, and_false, false_and, and_true, if_true, if_false])) dX9_neighbour_77
          · refine lv_bipush (v := 8) hx hb dX9_neighbour_67 (by decide) ?_
            refine lv_iload_n hx hb dX9_neighbour_69 rfl (lv_at hl 0 rfl) ?_
            refine lv_imul hx hb dX9_neighbour_70 ?_
            refine lv_iload_n hx hb dX9_neighbour_71 rfl (lv_at hl 1 rfl) ?_
            refine lv_iadd hx hb dX9_neighbour_72 ?_
            refine lv_goto (tgt := 77) hx hb dX9_neighbour_73 (by decide) ?_
            subst hQ
            exact rt_i hx hb hr hlk (by first | (exfalso; omega) | (rw [← nbr_ok j hj way hw]; simp (decide := true) only [nbrJ, c_1t, c_2t, c_3f, c_9f, c_10f, reduceIte, Bool.false_eq_true, and_false, false_and, and_true, if_true, if_false])) dX9_neighbour_77
    · refine lv_iconst (v := 1) hx hb dX9_neighbour_18 (by decide) ?_
      refine lv_goto (tgt := 23) hx hb dX9_neighbour_19 (by decide) ?_
      refine lv_iadd hx hb dX9_neighbour_23 ?_
      refine lv_istore_n (lv' := [(2, .int ((nI (j % 8)) + 1)), (0, .int (nI j)), (1, .int (nI way))]) hx hb dX9_neighbour_24 rfl hl (by decide) rfl (fun ls hl => ?_)
      refine lv_iload_n hx hb dX9_neighbour_25 rfl (lv_at hl 1 rfl) ?_
      refine lv_bipush (v := 8) hx hb dX9_neighbour_26 (by decide) ?_
      refine lv_idiv hx hb dX9_neighbour_28 (by decide) ?_
      refine top_i (y := nI (j / 8)) (pk_div (a := j) (d := 8) (by omega) (by decide) (by decide)) ?_
      refine lv_iload_n hx hb dX9_neighbour_29 rfl (lv_at hl 2 rfl) ?_
      refine lnz_ne (tgt := 37) hx hb dX9_neighbour_30 (by decide) (by omega) (fun c_11t => ?_) (fun c_11f => ?_)
      · refine lv_iload_n hx hb dX9_neighbour_37 rfl (lv_at hl 2 rfl) ?_
        refine lv_iconst (v := 3) hx hb dX9_neighbour_38 (by decide) ?_
        refine ln_ne (tgt := 46) (a := way) (b := 3) hx hb dX9_neighbour_39 (by decide) rfl rfl (by omega) (by omega) (fun c_12t => ?_) (fun c_12f => ?_)
        · refine lv_iconst (v := 0) hx hb dX9_neighbour_46 (by decide) ?_
          refine lv_iadd hx hb dX9_neighbour_47 ?_
          refine lv_istore_n (lv' := [(3, .int ((nI (j / 8)) + 0)), (2, .int ((nI (j % 8)) + 1)), (0, .int (nI j)), (1, .int (nI way))]) hx hb dX9_neighbour_48 rfl hl (by decide) rfl (fun ls hl => ?_)
          refine lv_iload_n hx hb dX9_neighbour_49 rfl (lv_at hl 1 rfl) ?_
          refine lv_bipush (v := 8) hx hb dX9_neighbour_50 (by decide) ?_
          refine cl_p (run_S hC (c9_isIn l ((nI (j % 8)) + 1) 8) (As := [.int ((nI (j % 8)) + 1), .int 8]) (rest := []) rfl rfl ml_X9_99 sm_X9_isIn ini_X9 cd_X9_isIn na_X9_isIn tB_blind (fun _ _ _ => trivial) hl.1 (Nat.le_of_ble_eq_true rfl) ⟨Nat.le_of_ble_eq_true rfl, Nat.le_of_ble_eq_true rfl⟩ ⟨Nat.le_refl _, Nat.le_refl _⟩ rfl dX9_neighbour_52) ?_
          refine lb_eq (tgt := 76) (b := (inB ((nI (j % 8)) + 1) 8)) hx hb dX9_neighbour_55 (by decide) (fun c_13t => ?_) (fun c_13f => ?_)
          · refine lv_iconst (v := (-1)) hx hb dX9_neighbour_76 (by decide) ?_
            subst hQ
            exact rt_i hx hb hr hlk (by first | (exfalso; omega) | (rw [← nbr_ok j hj way hw]; simp (decide := true) only [nbrJ, c_1t, c_2f, c_11t, c_12t, c_13t, reduceIte, Bool.false_eq_true, and_false, false_and, and_true, if_true, if_false])) dX9_neighbour_77
          · refine lv_iload_n hx hb dX9_neighbour_58 rfl (lv_at hl 0 rfl) ?_
            refine lv_bipush (v := 8) hx hb dX9_neighbour_59 (by decide) ?_
            refine cl_p (run_S hC (c9_isIn l ((nI (j / 8)) + 0) 8) (As := [.int ((nI (j / 8)) + 0), .int 8]) (rest := []) rfl rfl ml_X9_99 sm_X9_isIn ini_X9 cd_X9_isIn na_X9_isIn tB_blind (fun _ _ _ => trivial) hl.1 (Nat.le_of_ble_eq_true rfl) ⟨Nat.le_of_ble_eq_true rfl, Nat.le_of_ble_eq_true rfl⟩ ⟨Nat.le_refl _, Nat.le_refl _⟩ rfl dX9_neighbour_61) ?_
            refine lb_eq (tgt := 76) (b := (inB ((nI (j / 8)) + 0) 8)) hx hb dX9_neighbour_64 (by decide) (fun c_14t => ?_) (fun c_14f => ?_)
            · refine lv_iconst (v := (-1)) hx hb dX9_neighbour_76 (by decide) ?_
              subst hQ
              exact rt_i hx hb hr hlk (by first | (exfalso; omega) | (rw [← nbr_ok j hj way hw]; simp (decide := true) only [nbrJ, c_1t, c_2f, c_11t, c_12t, c_13f, c_14t, reduceIte, Bool.false_eq_true, and_false, false_and, and_true, if_true, if_false])) dX9_neighbour_77
            · refine lv_bipush (v := 8) hx hb dX9_neighbour_67 (by decide) ?_
              refine lv_iload_n hx hb dX9_neighbour_69 rfl (lv_at hl 0 rfl) ?_
              refine lv_imul hx hb dX9_neighbour_70 ?_
              refine lv_iload_n hx hb dX9_neighbour_71 rfl (lv_at hl 1 rfl) ?_
              refine lv_iadd hx hb dX9_neighbour_72 ?_
              refine lv_goto (tgt := 77) hx hb dX9_neighbour_73 (by decide) ?_
              subst hQ
              exact rt_i hx hb hr hlk (by first | (exfalso; omega) | (rw [← nbr_ok j hj way hw]; simp (decide := true) only [nbrJ, c_1t, c_2f, c_11t, c_12t, c_13f, c_14f, reduceIte, Bool.false_eq_true, and_false, false_and, and_true, if_true, if_false])) dX9_neighbour_77
        · refine lv_iconst (v := 1) hx hb dX9_neighbour_42 (by decide) ?_
          refine lv_goto (tgt := 47) hx hb dX9_neighbour_43 (by decide) ?_
          refine lv_iadd hx hb dX9_neighbour_47 ?_
          refine lv_istore_n (lv' := [(3, .int ((nI (j / 8)) + 1)), (2, .int ((nI (j % 8)) + 1)), (0, .int (nI j)), (1, .int (nI way))]) hx hb dX9_neighbour_48 rfl hl (by decide) rfl (fun ls hl => ?_)
          refine lv_iload_n hx hb dX9_neighbour_49 rfl (lv_at hl 1 rfl) ?_
          refine lv_bipush (v := 8) hx hb dX9_neighbour_50 (by decide) ?_
          refine cl_p (run_S hC (c9_isIn l ((nI (j % 8)) + 1) 8) (As := [.int ((nI (j % 8)) + 1), .int 8]) (rest := []) rfl rfl ml_X9_99 sm_X9_isIn ini_X9 cd_X9_isIn na_X9_isIn tB_blind (fun _ _ _ => trivial) hl.1 (Nat.le_of_ble_eq_true rfl) ⟨Nat.le_of_ble_eq_true rfl, Nat.le_of_ble_eq_true rfl⟩ ⟨Nat.le_refl _, Nat.le_refl _⟩ rfl dX9_neighbour_52) ?_
          refine lb_eq (tgt := 76) (b := (inB ((nI (j % 8)) + 1) 8)) hx hb dX9_neighbour_55 (by decide) (fun c_15t => ?_) (fun c_15f => ?_)
          · refine lv_iconst (v := (-1)) hx hb dX9_neighbour_76 (by decide) ?_
            subst hQ
            exact rt_i hx hb hr hlk (by first | (exfalso; omega) | (rw [← nbr_ok j hj way hw]; simp (decide := true) only [nbrJ, c_1t, c_2f, c_11t, c_12f, c_15t, reduceIte, Bool.false_eq_true, and_false, false_and, and_true, if_true, if_false])) dX9_neighbour_77
          · refine lv_iload_n hx hb dX9_neighbour_58 rfl (lv_at hl 0 rfl) ?_
            refine lv_bipush (v := 8) hx hb dX9_neighbour_59 (by decide) ?_
            refine cl_p (run_S hC (c9_isIn l ((nI (j / 8)) + 1) 8) (As := [.int ((nI (j / 8)) + 1), .int 8]) (rest := []) rfl rfl ml_X9_99 sm_X9_isIn ini_X9 cd_X9_isIn na_X9_isIn tB_blind (fun _ _ _ => trivial) hl.1 (Nat.le_of_ble_eq_true rfl) ⟨Nat.le_of_ble_eq_true rfl, Nat.le_of_ble_eq_true rfl⟩ ⟨Nat.le_refl _, Nat.le_refl _⟩ rfl dX9_neighbour_61) ?_
            refine lb_eq (tgt := 76) (b := (inB ((nI (j / 8)) + 1) 8)) hx hb dX9_neighbour_64 (by decide) (fun c_16t => ?_) (fun c_16f => ?_)
            · refine lv_iconst (v := (-1)) hx hb dX9_neighbour_76 (by decide) ?_
              subst hQ
              exact rt_i hx hb hr hlk (by first | (exfalso; omega) | (rw [← nbr_ok j hj way hw]; simp (decide := true) only [nbrJ, c_1t, c_2f, c_11t, c_12f, c_15f, c_16t, reduceIte, Bool.false_eq_true, and_false, false_and, and_true, if_true, if_false])) dX9_neighbour_77
            · refine lv_bipush (v := 8) hx hb dX9_neighbour_67 (by decide) ?_
              refine lv_iload_n hx hb dX9_neighbour_69 rfl (lv_at hl 0 rfl) ?_
              refine lv_imul hx hb dX9_neighbour_70 ?_
              refine lv_iload_n hx hb dX9_neighbour_71 rfl (lv_at hl 1 rfl) ?_
              refine lv_iadd hx hb dX9_neighbour_72 ?_
              refine lv_goto (tgt := 77) hx hb dX9_neighbour_73 (by decide) ?_
              subst hQ
              exact rt_i hx hb hr hlk (by first | (exfalso; omega) | (rw [← nbr_ok j hj way hw]; simp (decide := true) only [nbrJ, c_1t, c_2f, c_11t, c_12f, c_15f, c_16f, reduceIte, Bool.false_eq_true, and_false, false_and, and_true, if_true, if_false])) dX9_neighbour_77
      · refine lv_iconst (v := (-1)) hx hb dX9_neighbour_33 (by decide) ?_
        refine lv_goto (tgt := 47) hx hb dX9_neighbour_34 (by decide) ?_
        refine lv_iadd hx hb dX9_neighbour_47 ?_
        refine lv_istore_n (lv' := [(3, .int ((nI (j / 8)) + (-1))), (2, .int ((nI (j % 8)) + 1)), (0, .int (nI j)), (1, .int (nI way))]) hx hb dX9_neighbour_48 rfl hl (by decide) rfl (fun ls hl => ?_)
        refine lv_iload_n hx hb dX9_neighbour_49 rfl (lv_at hl 1 rfl) ?_
        refine lv_bipush (v := 8) hx hb dX9_neighbour_50 (by decide) ?_
        refine cl_p (run_S hC (c9_isIn l ((nI (j % 8)) + 1) 8) (As := [.int ((nI (j % 8)) + 1), .int 8]) (rest := []) rfl rfl ml_X9_99 sm_X9_isIn ini_X9 cd_X9_isIn na_X9_isIn tB_blind (fun _ _ _ => trivial) hl.1 (Nat.le_of_ble_eq_true rfl) ⟨Nat.le_of_ble_eq_true rfl, Nat.le_of_ble_eq_true rfl⟩ ⟨Nat.le_refl _, Nat.le_refl _⟩ rfl dX9_neighbour_52) ?_
        refine lb_eq (tgt := 76) (b := (inB ((nI (j % 8)) + 1) 8)) hx hb dX9_neighbour_55 (by decide) (fun c_17t => ?_) (fun c_17f => ?_)
        · refine lv_iconst (v := (-1)) hx hb dX9_neighbour_76 (by decide) ?_
          subst hQ
          exact rt_i hx hb hr hlk (by first | (exfalso; omega) | (rw [← nbr_ok j hj way hw]; simp (decide := true) only [nbrJ, c_1t, c_2f, c_11f, c_17t, reduceIte, Bool.false_eq_true, and_false, false_and, and_true, if_true, if_false])) dX9_neighbour_77
        · refine lv_iload_n hx hb dX9_neighbour_58 rfl (lv_at hl 0 rfl) ?_
          refine lv_bipush (v := 8) hx hb dX9_neighbour_59 (by decide) ?_
          refine cl_p (run_S hC (c9_isIn l ((nI (j / 8)) + (-1)) 8) (As := [.int ((nI (j / 8)) + (-1)), .int 8]) (rest := []) rfl rfl ml_X9_99 sm_X9_isIn ini_X9 cd_X9_isIn na_X9_isIn tB_blind (fun _ _ _ => trivial) hl.1 (Nat.le_of_ble_eq_true rfl) ⟨Nat.le_of_ble_eq_true rfl, Nat.le_of_ble_eq_true rfl⟩ ⟨Nat.le_refl _, Nat.le_refl _⟩ rfl dX9_neighbour_61) ?_
          refine lb_eq (tgt := 76) (b := (inB ((nI (j / 8)) + (-1)) 8)) hx hb dX9_neighbour_64 (by decide) (fun c_18t => ?_) (fun c_18f => ?_)
          · refine lv_iconst (v := (-1)) hx hb dX9_neighbour_76 (by decide) ?_
            subst hQ
            exact rt_i hx hb hr hlk (by first | (exfalso; omega) | (rw [← nbr_ok j hj way hw]; simp (decide := true) only [nbrJ, c_1t, c_2f, c_11f, c_17f, c_18t, reduceIte, Bool.false_eq_true, and_false, false_and, and_true, if_true, if_false])) dX9_neighbour_77
          · refine lv_bipush (v := 8) hx hb dX9_neighbour_67 (by decide) ?_
            refine lv_iload_n hx hb dX9_neighbour_69 rfl (lv_at hl 0 rfl) ?_
            refine lv_imul hx hb dX9_neighbour_70 ?_
            refine lv_iload_n hx hb dX9_neighbour_71 rfl (lv_at hl 1 rfl) ?_
            refine lv_iadd hx hb dX9_neighbour_72 ?_
            refine lv_goto (tgt := 77) hx hb dX9_neighbour_73 (by decide) ?_
            subst hQ
            exact rt_i hx hb hr hlk (by first | (exfalso; omega) | (rw [← nbr_ok j hj way hw]; simp (decide := true) only [nbrJ, c_1t, c_2f, c_11f, c_17f, c_18f, reduceIte, Bool.false_eq_true, and_false, false_and, and_true, if_true, if_false])) dX9_neighbour_77
  · refine lv_iconst (v := (-1)) hx hb dX9_neighbour_9 (by decide) ?_
    refine lv_goto (tgt := 23) hx hb dX9_neighbour_10 (by decide) ?_
    refine lv_iadd hx hb dX9_neighbour_23 ?_
    refine lv_istore_n (lv' := [(2, .int ((nI (j % 8)) + (-1))), (0, .int (nI j)), (1, .int (nI way))]) hx hb dX9_neighbour_24 rfl hl (by decide) rfl (fun ls hl => ?_)
    refine lv_iload_n hx hb dX9_neighbour_25 rfl (lv_at hl 1 rfl) ?_
    refine lv_bipush (v := 8) hx hb dX9_neighbour_26 (by decide) ?_
    refine lv_idiv hx hb dX9_neighbour_28 (by decide) ?_
    refine top_i (y := nI (j / 8)) (pk_div (a := j) (d := 8) (by omega) (by decide) (by decide)) ?_
    refine lv_iload_n hx hb dX9_neighbour_29 rfl (lv_at hl 2 rfl) ?_
    refine lnz_ne (tgt := 37) hx hb dX9_neighbour_30 (by decide) (by omega) (fun c_19t => ?_) (fun c_19f => ?_)
    · refine lv_iload_n hx hb dX9_neighbour_37 rfl (lv_at hl 2 rfl) ?_
      refine lv_iconst (v := 3) hx hb dX9_neighbour_38 (by decide) ?_
      refine ln_ne (tgt := 46) (a := way) (b := 3) hx hb dX9_neighbour_39 (by decide) rfl rfl (by omega) (by omega) (fun c_20t => ?_) (fun c_20f => ?_)
      · refine lv_iconst (v := 0) hx hb dX9_neighbour_46 (by decide) ?_
        refine lv_iadd hx hb dX9_neighbour_47 ?_
        refine lv_istore_n (lv' := [(3, .int ((nI (j / 8)) + 0)), (2, .int ((nI (j % 8)) + (-1))), (0, .int (nI j)), (1, .int (nI way))]) hx hb dX9_neighbour_48 rfl hl (by decide) rfl (fun ls hl => ?_)
        refine lv_iload_n hx hb dX9_neighbour_49 rfl (lv_at hl 1 rfl) ?_
        refine lv_bipush (v := 8) hx hb dX9_neighbour_50 (by decide) ?_
        refine cl_p (run_S hC (c9_isIn l ((nI (j % 8)) + (-1)) 8) (As := [.int ((nI (j % 8)) + (-1)), .int 8]) (rest := []) rfl rfl ml_X9_99 sm_X9_isIn ini_X9 cd_X9_isIn na_X9_isIn tB_blind (fun _ _ _ => trivial) hl.1 (Nat.le_of_ble_eq_true rfl) ⟨Nat.le_of_ble_eq_true rfl, Nat.le_of_ble_eq_true rfl⟩ ⟨Nat.le_refl _, Nat.le_refl _⟩ rfl dX9_neighbour_52) ?_
        refine lb_eq (tgt := 76) (b := (inB ((nI (j % 8)) + (-1)) 8)) hx hb dX9_neighbour_55 (by decide) (fun c_21t => ?_) (fun c_21f => ?_)
        · refine lv_iconst (v := (-1)) hx hb dX9_neighbour_76 (by decide) ?_
          subst hQ
          exact rt_i hx hb hr hlk (by first | (exfalso; omega) | (rw [← nbr_ok j hj way hw]; simp (decide := true) only [nbrJ, c_1f, c_19t, c_20t, c_21t, reduceIte, Bool.false_eq_true, and_false, false_and, and_true, if_true, if_false])) dX9_neighbour_77
        · refine lv_iload_n hx hb dX9_neighbour_58 rfl (lv_at hl 0 rfl) ?_
          refine lv_bipush (v := 8) hx hb dX9_neighbour_59 (by decide) ?_
          refine cl_p (run_S hC (c9_isIn l ((nI (j / 8)) + 0) 8) (As := [.int ((nI (j / 8)) + 0), .int 8]) (rest := []) rfl rfl ml_X9_99 sm_X9_isIn ini_X9 cd_X9_isIn na_X9_isIn tB_blind (fun _ _ _ => trivial) hl.1 (Nat.le_of_ble_eq_true rfl) ⟨Nat.le_of_ble_eq_true rfl, Nat.le_of_ble_eq_true rfl⟩ ⟨Nat.le_refl _, Nat.le_refl _⟩ rfl dX9_neighbour_61) ?_
          refine lb_eq (tgt := 76) (b := (inB ((nI (j / 8)) + 0) 8)) hx hb dX9_neighbour_64 (by decide) (fun c_22t => ?_) (fun c_22f => ?_)
          · refine lv_iconst (v := (-1)) hx hb dX9_neighbour_76 (by decide) ?_
            subst hQ
            exact rt_i hx hb hr hlk (by first | (exfalso; omega) | (rw [← nbr_ok j hj way hw]; simp (decide := true) only [nbrJ, c_1f, c_19t, c_20t, c_21f, c_22t, reduceIte, Bool.false_eq_true, and_false, false_and, and_true, if_true, if_false])) dX9_neighbour_77
          · refine lv_bipush (v := 8) hx hb dX9_neighbour_67 (by decide) ?_
            refine lv_iload_n hx hb dX9_neighbour_69 rfl (lv_at hl 0 rfl) ?_
            refine lv_imul hx hb dX9_neighbour_70 ?_
            refine lv_iload_n hx hb dX9_neighbour_71 rfl (lv_at hl 1 rfl) ?_
            refine lv_iadd hx hb dX9_neighbour_72 ?_
            refine lv_goto (tgt := 77) hx hb dX9_neighbour_73 (by decide) ?_
            subst hQ
            exact rt_i hx hb hr hlk (by first | (exfalso; omega) | (rw [← nbr_ok j hj way hw]; simp (decide := true) only [nbrJ, c_1f, c_19t, c_20t, c_21f, c_22f, reduceIte, Bool.false_eq_true, and_false, false_and, and_true, if_true, if_false])) dX9_neighbour_77
      · refine lv_iconst (v := 1) hx hb dX9_neighbour_42 (by decide) ?_
        refine lv_goto (tgt := 47) hx hb dX9_neighbour_43 (by decide) ?_
        refine lv_iadd hx hb dX9_neighbour_47 ?_
        refine lv_istore_n (lv' := [(3, .int ((nI (j / 8)) + 1)), (2, .int ((nI (j % 8)) + (-1))), (0, .int (nI j)), (1, .int (nI way))]) hx hb dX9_neighbour_48 rfl hl (by decide) rfl (fun ls hl => ?_)
        refine lv_iload_n hx hb dX9_neighbour_49 rfl (lv_at hl 1 rfl) ?_
        refine lv_bipush (v := 8) hx hb dX9_neighbour_50 (by decide) ?_
        refine cl_p (run_S hC (c9_isIn l ((nI (j % 8)) + (-1)) 8) (As := [.int ((nI (j % 8)) + (-1)), .int 8]) (rest := []) rfl rfl ml_X9_99 sm_X9_isIn ini_X9 cd_X9_isIn na_X9_isIn tB_blind (fun _ _ _ => trivial) hl.1 (Nat.le_of_ble_eq_true rfl) ⟨Nat.le_of_ble_eq_true rfl, Nat.le_of_ble_eq_true rfl⟩ ⟨Nat.le_refl _, Nat.le_refl _⟩ rfl dX9_neighbour_52) ?_
        refine lb_eq (tgt := 76) (b := (inB ((nI (j % 8)) + (-1)) 8)) hx hb dX9_neighbour_55 (by decide) (fun c_23t => ?_) (fun c_23f => ?_)
        · refine lv_iconst (v := (-1)) hx hb dX9_neighbour_76 (by decide) ?_
          subst hQ
          exact rt_i hx hb hr hlk (by first | (exfalso; omega) | (rw [← nbr_ok j hj way hw]; simp (decide := true) only [nbrJ, c_1f, c_19t, c_20f, c_23t, reduceIte, Bool.false_eq_true, and_false, false_and, and_true, if_true, if_false])) dX9_neighbour_77
        · refine lv_iload_n hx hb dX9_neighbour_58 rfl (lv_at hl 0 rfl) ?_
          refine lv_bipush (v := 8) hx hb dX9_neighbour_59 (by decide) ?_
          refine cl_p (run_S hC (c9_isIn l ((nI (j / 8)) + 1) 8) (As := [.int ((nI (j / 8)) + 1), .int 8]) (rest := []) rfl rfl ml_X9_99 sm_X9_isIn ini_X9 cd_X9_isIn na_X9_isIn tB_blind (fun _ _ _ => trivial) hl.1 (Nat.le_of_ble_eq_true rfl) ⟨Nat.le_of_ble_eq_true rfl, Nat.le_of_ble_eq_true rfl⟩ ⟨Nat.le_refl _, Nat.le_refl _⟩ rfl dX9_neighbour_61) ?_
          refine lb_eq (tgt := 76) (b := (inB ((nI (j / 8)) + 1) 8)) hx hb dX9_neighbour_64 (by decide) (fun c_24t => ?_) (fun c_24f => ?_)
          · refine lv_iconst (v := (-1)) hx hb dX9_neighbour_76 (by decide) ?_
            subst hQ
            exact rt_i hx hb hr hlk (by first | (exfalso; omega) | (rw [← nbr_ok j hj way hw]; simp (decide := true) only [nbrJ, c_1f, c_19t, c_20f, c_23f, c_24t, reduceIte, Bool.false_eq_true, and_false, false_and, and_true, if_true, if_false])) dX9_neighbour_77
          · refine lv_bipush (v := 8) hx hb dX9_neighbour_67 (by decide) ?_
            refine lv_iload_n hx hb dX9_neighbour_69 rfl (lv_at hl 0 rfl) ?_
            refine lv_imul hx hb dX9_neighbour_70 ?_
            refine lv_iload_n hx hb dX9_neighbour_71 rfl (lv_at hl 1 rfl) ?_
            refine lv_iadd hx hb dX9_neighbour_72 ?_
            refine lv_goto (tgt := 77) hx hb dX9_neighbour_73 (by decide) ?_
            subst hQ
            exact rt_i hx hb hr hlk (by first | (exfalso; omega) | (rw [← nbr_ok j hj way hw]; simp (decide := true) only [nbrJ, c_1f, c_19t, c_20f, c_23f, c_24f, reduceIte, Bool.false_eq_true, and_false, false_and, and_true, if_true, if_false])) dX9_neighbour_77
    · refine lv_iconst (v := (-1)) hx hb dX9_neighbour_33 (by decide) ?_
      refine lv_goto (tgt := 47) hx hb dX9_neighbour_34 (by decide) ?_
      refine lv_iadd hx hb dX9_neighbour_47 ?_
      refine lv_istore_n (lv' := [(3, .int ((nI (j / 8)) + (-1))), (2, .int ((nI (j % 8)) + (-1))), (0, .int (nI j)), (1, .int (nI way))]) hx hb dX9_neighbour_48 rfl hl (by decide) rfl (fun ls hl => ?_)
      refine lv_iload_n hx hb dX9_neighbour_49 rfl (lv_at hl 1 rfl) ?_
      refine lv_bipush (v := 8) hx hb dX9_neighbour_50 (by decide) ?_
      refine cl_p (run_S hC (c9_isIn l ((nI (j % 8)) + (-1)) 8) (As := [.int ((nI (j % 8)) + (-1)), .int 8]) (rest := []) rfl rfl ml_X9_99 sm_X9_isIn ini_X9 cd_X9_isIn na_X9_isIn tB_blind (fun _ _ _ => trivial) hl.1 (Nat.le_of_ble_eq_true rfl) ⟨Nat.le_of_ble_eq_true rfl, Nat.le_of_ble_eq_true rfl⟩ ⟨Nat.le_refl _, Nat.le_refl _⟩ rfl dX9_neighbour_52) ?_
      refine lb_eq (tgt := 76) (b := (inB ((nI (j % 8)) + (-1)) 8)) hx hb dX9_neighbour_55 (by decide) (fun c_25t => ?_) (fun c_25f => ?_)
      · refine lv_iconst (v := (-1)) hx hb dX9_neighbour_76 (by decide) ?_
        subst hQ
        exact rt_i hx hb hr hlk (by first | (exfalso; omega) | (rw [← nbr_ok j hj way hw]; simp (decide := true) only [nbrJ, c_1f, c_19f, c_25t, reduceIte, Bool.false_eq_true, and_false, false_and, and_true, if_true, if_false])) dX9_neighbour_77
      · refine lv_iload_n hx hb dX9_neighbour_58 rfl (lv_at hl 0 rfl) ?_
        refine lv_bipush (v := 8) hx hb dX9_neighbour_59 (by decide) ?_
        refine cl_p (run_S hC (c9_isIn l ((nI (j / 8)) + (-1)) 8) (As := [.int ((nI (j / 8)) + (-1)), .int 8]) (rest := []) rfl rfl ml_X9_99 sm_X9_isIn ini_X9 cd_X9_isIn na_X9_isIn tB_blind (fun _ _ _ => trivial) hl.1 (Nat.le_of_ble_eq_true rfl) ⟨Nat.le_of_ble_eq_true rfl, Nat.le_of_ble_eq_true rfl⟩ ⟨Nat.le_refl _, Nat.le_refl _⟩ rfl dX9_neighbour_61) ?_
        refine lb_eq (tgt := 76) (b := (inB ((nI (j / 8)) + (-1)) 8)) hx hb dX9_neighbour_64 (by decide) (fun c_26t => ?_) (fun c_26f => ?_)
        · refine lv_iconst (v := (-1)) hx hb dX9_neighbour_76 (by decide) ?_
          subst hQ
          exact rt_i hx hb hr hlk (by first | (exfalso; omega) | (rw [← nbr_ok j hj way hw]; simp (decide := true) only [nbrJ, c_1f, c_19f, c_25f, c_26t, reduceIte, Bool.false_eq_true, and_false, false_and, and_true, if_true, if_false])) dX9_neighbour_77
        · refine lv_bipush (v := 8) hx hb dX9_neighbour_67 (by decide) ?_
          refine lv_iload_n hx hb dX9_neighbour_69 rfl (lv_at hl 0 rfl) ?_
          refine lv_imul hx hb dX9_neighbour_70 ?_
          refine lv_iload_n hx hb dX9_neighbour_71 rfl (lv_at hl 1 rfl) ?_
          refine lv_iadd hx hb dX9_neighbour_72 ?_
          refine lv_goto (tgt := 77) hx hb dX9_neighbour_73 (by decide) ?_
          subst hQ
          exact rt_i hx hb hr hlk (by first | (exfalso; omega) | (rw [← nbr_ok j hj way hw]; simp (decide := true) only [nbrJ, c_1f, c_19f, c_25f, c_26f, reduceIte, Bool.false_eq_true, and_false, false_and, and_true, if_true, if_false])) dX9_neighbour_77
set_option maxHeartbeats 4000000 in
set_option maxRecDepth 100000 in
theorem c9_lays (l : Launch) (G : gG) (ma : Nat → Nat) (M : MS) (D : mD) (j : Nat) (x : Int32) (hI : mI ma) (hcnt : CNT M) (hj : j < 64) : Met l yX9_lays (wB yX9_lays cX9_lays 7 none) (rmL 2 0 0) (va_Pc [.ref (ma 0), .int (nI j), .int x] (mB G ma M D)) (mQv G ma (some (dS (frX M x) j)) (fun M' => M' = M)) 0 0 (mA ma) := by
  refine st_N (own := RX9) (by decide +kernel) rfl (Nat.le_of_ble_eq_true rfl) ?_
  intro p e s m below meth c ls args Q hQ hC hr hlk hnm hl hP
  obtain ⟨hM, hK⟩ := hP
  have hx := hC.1
  have hb := hC.2.1
  have hl : lv_has ls 7 [(0, .ref (ma 0)), (1, .int (nI j)), (2, .int x)] := hl
  have hS : va_S (mA ma) s.heap s.heap [] := va_S.rf
  obtain ⟨H, locs, hHe, hLe⟩ : ∃ (H : Heap) (locs : List Loc), H = s.heap ∧ locs = [] := ⟨_, _, rfl, rfl⟩
  rw [← hHe] at hM
  have hS : va_S (mA ma) s.heap H locs := by rw [hHe, hLe]; exact va_S.rf
  suffices hgo : W p l e (rmL 2 0 0) s m args below meth c H locs 0 0 Q (F0 m 0 ls []) by
    rw [hHe, hLe] at hgo
    exact hgo
  clear hHe hLe
  obtain ⟨M0, hs, -, hM⟩ := hM
  have h6 := hcnt.R6
  refine lv_iconst (v := 0) hx hb dX9_lays_0 (by decide) ?_
  refine lv_istore_n (lv' := [(3, .int 0), (0, .ref (ma 0)), (1, .int (nI j)), (2, .int x)]) hx hb dX9_lays_1 rfl hl (by decide) rfl (fun ls hl => ?_)
  have loop1 : ∀ (n : Nat) (k : Nat) (M1 : MS) (H : Heap) (locs : List Loc) (ls : Array Slot) (hk : k ≤ 64) (hs1 : ∀ k, scr k = false → k < 40 → M1 k = M k) (h2 : ∀ c, c < k → M1 38 c = -1) (hM : WM G ma M1 H) (hS : va_S (mA ma) s.heap H locs), 64 - k < n → lv_has ls 7 [(3, .int (nI k)), (0, .ref (ma 0)), (1, .int (nI j)), (2, .int x)] → W p l e (rmL 2 0 0) s m args below meth c H locs 0 0 Q (F0 m 2 ls []) := by
    intro n
    induction n with
    | zero => intro k M1 H locs ls hk hs1 h2 hM hS hm hl; omega
    | succ n ih1 =>
      intro k M1 H locs ls hk hs1 h2 hM hS hm hl
      refine lv_iload_n hx hb dX9_lays_2 rfl (lv_at hl 0 rfl) ?_
      refine lv_bipush (v := 64) hx hb dX9_lays_3 (by decide) ?_
      refine ln_ge (tgt := 21) (a := k) (b := 64) hx hb dX9_lays_5 (by decide) rfl rfl (by omega) (by omega) (fun c_2t => ?_) (fun c_2f => ?_)
      · refine lv_iconst (v := 0) hx hb dX9_lays_21 (by decide) ?_
        refine lv_istore_n (lv' := [(3, .int 0), (0, .ref (ma 0)), (1, .int (nI j)), (2, .int x)]) hx hb dX9_lays_22 rfl hl (by decide) rfl (fun ls hl => ?_)
        refine lv_aload_n hx hb dX9_lays_23 rfl (lv_at hl 1 rfl) ?_
        refine lv_iload_n hx hb dX9_lays_24 rfl (lv_at hl 2 rfl) ?_
        refine cl_pi (x := bI (opnB M j)) (run_V hC (c9_isOpen l G ma M1 none j (cnt_congr hcnt hs1) (by omega)) (As := [.int (nI j)]) (rest := []) rfl rfl ml_X9_116 im_X9_isOpen se_X9_isOpen ini_X9 cd_X9_isOpen ⟨rfl, na_X9_isOpen⟩ mB_blind (mr_recv hK (WS.of hM)) (mr_B hK (WS.of hM)) hl.1 (Nat.le_of_ble_eq_true rfl) ⟨Nat.le_of_ble_eq_true rfl, Nat.le_of_ble_eq_true rfl⟩ ⟨Nat.le_refl _, Nat.le_refl _⟩ rfl dX9_lays_25) (congrArg bI (opnB_congr hs1 j)) ?_
        refine lb_eq (tgt := 52) (b := (opnB M j)) hx hb dX9_lays_28 (by decide) (fun c_3t => ?_) (fun c_3f => ?_)
        · refine lv_iconst (v := 0) hx hb dX9_lays_52 (by decide) ?_
          refine lv_istore (lv' := [(4, .int 0), (3, .int 0), (0, .ref (ma 0)), (1, .int (nI j)), (2, .int x)]) hx hb dX9_lays_53 hl (by decide) rfl (fun ls hl => ?_)
          have loop4 : ∀ (n : Nat) (k : Nat) (many : Nat) (F : Nat → Option Nat) (fnd : Nat → Nat) (M2 : MS) (H : Heap) (locs : List Loc) (ls : Array Slot) (hs2 : ∀ k, scr k = false → k < 40 → M2 k = M k) (hF : ∀ c, c < 64 → M2 38 c = oI (F c)) (hf : ∀ i, i < many → M2 39 i = nI (fnd i)) (hB : BF (frX M x) j F fnd many k 0) (hN : ∀ i, i < many → fD F (fnd i) ≤ i) (hkm : k ≤ many) (hM : WM G ma M2 H) (hS : va_S (mA ma) s.heap H locs), 64 - k < n → lv_has ls 7 [(4, .int (nI k)), (3, .int (nI many)), (0, .ref (ma 0)), (1, .int (nI j)), (2, .int x)] → W p l e (rmL 2 0 0) s m args below meth c H locs 0 0 Q (F0 m 55 ls []) := by
            intro n
            induction n with
            | zero => intro k many F fnd M2 H locs ls hs2 hF hf hB hN hkm hM hS hm hl; omega
            | succ n ih4 =>
              intro k many F fnd M2 H locs ls hs2 hF hf hB hN hkm hM hS hm hl
              have hm64 := BF_many hB
              refine lv_iload hx hb dX9_lays_55 (lv_at hl 0 rfl) ?_
              refine lv_iload_n hx hb dX9_lays_57 rfl (lv_at hl 1 rfl) ?_
              refine ln_ge (tgt := 160) (a := k) (b := many) hx hb dX9_lays_58 (by decide) rfl rfl (by omega) (by omega) (fun c_5t => ?_) (fun c_5f => ?_)
              · subst hQ
                exact rt_mv hx hb hr hlk (show WS G ma M (some (dS (frX M x) j)) H from ⟨M2, hs2, fun d hd c hc => by cases hd; rw [hF c hc, BF_end hB (by omega) c hc], hM⟩) hS  (rfl) dX9_lays_160
              · refine lv_iconst (v := 0) hx hb dX9_lays_61 (by decide) ?_
                refine lv_istore (lv' := [(5, .int 0), (4, .int (nI k)), (3, .int (nI many)), (0, .ref (ma 0)), (1, .int (nI j)), (2, .int x)]) hx hb dX9_lays_62 hl (by decide) rfl (fun ls hl => ?_)
                have loop6 : ∀ (n : Nat) (w : Nat) (many3 : Nat) (F3 : Nat → Option Nat) (fnd3 : Nat → Nat) (M3 : MS) (H : Heap) (locs : List Loc) (ls : Array Slot) (hs3 : ∀ k, scr k = false → k < 40 → M3 k = M k) (hF3 : ∀ c, c < 64 → M3 38 c = oI (F3 c)) (hf3 : ∀ i, i < many3 → M3 39 i = nI (fnd3 i)) (hB3 : BF (frX M x) j F3 fnd3 many3 k w) (hN3 : ∀ i, i < many3 → fD F3 (fnd3 i) ≤ i) (hkm3 : k < many3) (hw : w ≤ 4) (hM : WM G ma M3 H) (hS : va_S (mA ma) s.heap H locs), 4 - w < n → lv_has ls 7 [(5, .int (nI w)), (4, .int (nI k)), (3, .int (nI many3)), (0, .ref (ma 0)), (1, .int (nI j)), (2, .int x)] → W p l e (rmL 2 0 0) s m args below meth c H locs 0 0 Q (F0 m 64 ls []) := by
                  intro n
                  induction n with
                  | zero => intro w many3 F3 fnd3 M3 H locs ls hs3 hF3 hf3 hB3 hN3 hkm3 hw hM hS hm hl; omega
                  | succ n ih6 =>
                    intro w many3 F3 fnd3 M3 H locs ls hs3 hF3 hf3 hB3 hN3 hkm3 hw hM hS hm hl
                    have hm3 := BF_many hB3
                    refine lv_iload hx hb dX9_lays_64 (lv_at hl 0 rfl) ?_
                    refine lv_iconst (v := 4) hx hb dX9_lays_66 (by decide) ?_
                    refine ln_ge (tgt := 154) (a := w) (b := 4) hx hb dX9_lays_67 (by decide) rfl rfl (by omega) (by omega) (fun c_7t => ?_) (fun c_7f => ?_)
                    · refine lv_iinc (v := nI (k + 1)) (lv' := [(4, .int (nI (k + 1))), (5, .int (nI w)), (3, .int (nI many3)), (0, .ref (ma 0)), (1, .int (nI j)), (2, .int x)]) hx hb dX9_lays_154 hl (k := 1) rfl (nI_inc _) (by decide) rfl (fun ls hl => ?_)
                      refine lv_goto (tgt := 55) hx hb dX9_lays_157 (by decide) ?_
                      exact ih4 (k + 1) many3 F3 fnd3 M3 H locs ls hs3 hF3 hf3 (BF_next (by rw [show (4 : Nat) = w by omega]; exact hB3) (by omega)) hN3 (by omega) hM hS (by omega) (lv_sub hl [0, 2, 3, 4, 5] rfl)
                    · refine lv_aload_n hx hb dX9_lays_70 rfl (lv_at hl 3 rfl) ?_
                      refine mr_get hC hK hM 39 (by decide) fl_X9_92 rfl (v := .ref (ma 39)) rfl dX9_lays_71 ?_
                      refine lv_iload hx hb dX9_lays_74 (lv_at hl 1 rfl) ?_
                      refine mr_ild hC hK hM 39 (i := k) (show k < 64 from by omega) rfl (v := nI (fnd3 k)) (hf3 k hkm3) dX9_lays_76 ?_
                      refine lv_iload hx hb dX9_lays_77 (lv_at hl 0 rfl) ?_
                      refine cl_p (run_S hC (c9_neighbour l (fnd3 k) w (hB3.1 k hkm3) (by omega)) (As := [.int (nI (fnd3 k)), .int (nI w)]) (rest := []) rfl rfl ml_X9_120 sm_X9_neighbour ini_X9 cd_X9_neighbour na_X9_neighbour tB_blind (fun _ _ _ => trivial) hl.1 (Nat.le_of_ble_eq_true rfl) ⟨Nat.le_of_ble_eq_true rfl, Nat.le_of_ble_eq_true rfl⟩ ⟨Nat.le_refl _, Nat.le_refl _⟩ rfl dX9_lays_79) ?_
                      rcases ho8 : nbr (fnd3 k) w with _ | k8
                      · refine top_i (y := -1) rfl ?_
                        refine lv_istore (lv' := [(6, .int (-1)), (5, .int (nI w)), (4, .int (nI k)), (3, .int (nI many3)), (0, .ref (ma 0)), (1, .int (nI j)), (2, .int x)]) hx hb dX9_lays_82 hl (by decide) rfl (fun ls hl => ?_)
                        refine lv_iload hx hb dX9_lays_84 (lv_at hl 0 rfl) ?_
                        refine lv_iconst (v := (-1)) hx hb dX9_lays_86 (by decide) ?_
                        refine lv_icmp_eq (tgt := 148) hx hb dX9_lays_87 (by decide) (fun _ => ?_) (fun c => absurd c (by decide))
                        refine lv_iinc (v := nI (w + 1)) (lv' := [(5, .int (nI (w + 1))), (6, .int (-1)), (4, .int (nI k)), (3, .int (nI many3)), (0, .ref (ma 0)), (1, .int (nI j)), (2, .int x)]) hx hb dX9_lays_148 hl (k := 1) rfl (nI_inc _) (by decide) rfl (fun ls hl => ?_)
                        refine lv_goto (tgt := 64) hx hb dX9_lays_151 (by decide) ?_
                        exact ih6 (w + 1) many3 F3 fnd3 M3 H locs ls hs3 hF3 hf3 (BF_skip hB3 hkm3 (fun c9 h9 => by rw [ho8] at h9; cases h9)) hN3 hkm3 (by omega) hM hS (by omega) (lv_sub hl [0, 2, 3, 4, 5, 6] rfl)
                      · refine top_i (y := nI k8) rfl ?_
                        have hc64 := nbr_lt _ (hB3.1 k hkm3) w (by omega) _ ho8
                        refine lv_istore (lv' := [(6, .int (nI k8)), (5, .int (nI w)), (4, .int (nI k)), (3, .int (nI many3)), (0, .ref (ma 0)), (1, .int (nI j)), (2, .int x)]) hx hb dX9_lays_82 hl (by decide) rfl (fun ls hl => ?_)
                        refine lv_iload hx hb dX9_lays_84 (lv_at hl 0 rfl) ?_
                        refine lv_iconst (v := (-1)) hx hb dX9_lays_86 (by decide) ?_
                        refine lv_icmp_eq (tgt := 148) hx hb dX9_lays_87 (by decide) (fun c => absurd c (nI_m1 (by omega))) (fun _ => ?_)
                        refine lv_aload_n hx hb dX9_lays_90 rfl (lv_at hl 4 rfl) ?_
                        refine mr_get hC hK hM 38 (by decide) fl_X9_89 rfl (v := .ref (ma 38)) rfl dX9_lays_91 ?_
                        refine lv_iload hx hb dX9_lays_94 (lv_at hl 0 rfl) ?_
                        refine mr_ild hC hK hM 38 (i := k8) (show k8 < 64 from hc64) rfl (v := oI (F3 k8)) (hF3 _ hc64) dX9_lays_96 ?_
                        rcases ho11 : F3 k8 with _ | k11
                        · refine top_i (y := -1) rfl ?_
                          refine lv_iconst (v := (-1)) hx hb dX9_lays_97 (by decide) ?_
                          refine lv_icmp_ne (tgt := 148) hx hb dX9_lays_98 (by decide) (fun c => absurd c (by decide)) (fun _ => ?_)
                          refine lv_iload hx hb dX9_lays_101 (lv_at hl 0 rfl) ?_
                          refine lv_iload_n hx hb dX9_lays_103 rfl (lv_at hl 6 rfl) ?_
                          refine lv_icmp_eq (tgt := 148) hx hb dX9_lays_104 (by decide) (fun c_13t => ?_) (fun c_13f => ?_)
                          · refine lv_iinc (v := nI (w + 1)) (lv' := [(5, .int (nI (w + 1))), (6, .int (nI k8)), (4, .int (nI k)), (3, .int (nI many3)), (0, .ref (ma 0)), (1, .int (nI j)), (2, .int x)]) hx hb dX9_lays_148 hl (k := 1) rfl (nI_inc _) (by decide) rfl (fun ls hl => ?_)
                            refine lv_goto (tgt := 64) hx hb dX9_lays_151 (by decide) ?_
                            exact ih6 (w + 1) many3 F3 fnd3 M3 H locs ls hs3 hF3 hf3 (BF_skip hB3 hkm3 (fun c9 h9 h8 => by rw [ho8] at h9; cases h9; exfalso; simp [frX, c_13t] at h8)) hN3 hkm3 (by omega) hM hS (by omega) (lv_sub hl [0, 2, 3, 4, 5, 6] rfl)
                          · refine lv_aload_n hx hb dX9_lays_107 rfl (lv_at hl 4 rfl) ?_
                            refine lv_iload hx hb dX9_lays_108 (lv_at hl 0 rfl) ?_
                            refine cl_pi (x := bI (opnB M k8)) (run_V hC (c9_isOpen l G ma M3 none k8 (cnt_congr hcnt hs3) (by omega)) (As := [.int (nI k8)]) (rest := []) rfl rfl ml_X9_116 im_X9_isOpen se_X9_isOpen ini_X9 cd_X9_isOpen ⟨rfl, na_X9_isOpen⟩ mB_blind (mr_recv hK (WS.of hM)) (mr_B hK (WS.of hM)) hl.1 (Nat.le_of_ble_eq_true rfl) ⟨Nat.le_of_ble_eq_true rfl, Nat.le_of_ble_eq_true rfl⟩ ⟨Nat.le_refl _, Nat.le_refl _⟩ rfl dX9_lays_110) (congrArg bI (opnB_congr hs3 _)) ?_
                            refine lb_eq (tgt := 148) (b := (opnB M k8)) hx hb dX9_lays_113 (by decide) (fun c_14t => ?_) (fun c_14f => ?_)
                            · refine lv_iinc (v := nI (w + 1)) (lv' := [(5, .int (nI (w + 1))), (6, .int (nI k8)), (4, .int (nI k)), (3, .int (nI many3)), (0, .ref (ma 0)), (1, .int (nI j)), (2, .int x)]) hx hb dX9_lays_148 hl (k := 1) rfl (nI_inc _) (by decide) rfl (fun ls hl => ?_)
                              refine lv_goto (tgt := 64) hx hb dX9_lays_151 (by decide) ?_
                              exact ih6 (w + 1) many3 F3 fnd3 M3 H locs ls hs3 hF3 hf3 (BF_skip hB3 hkm3 (fun c9 h9 h8 => by rw [ho8] at h9; cases h9; exfalso; simp [frX, c_14t] at h8)) hN3 hkm3 (by omega) hM hS (by omega) (lv_sub hl [0, 2, 3, 4, 5, 6] rfl)
                            · refine lv_aload_n hx hb dX9_lays_116 rfl (lv_at hl 4 rfl) ?_
                              refine mr_get hC hK hM 38 (by decide) fl_X9_89 rfl (v := .ref (ma 38)) rfl dX9_lays_117 ?_
                              refine lv_iload hx hb dX9_lays_120 (lv_at hl 0 rfl) ?_
                              refine lv_aload_n hx hb dX9_lays_122 rfl (lv_at hl 4 rfl) ?_
                              refine mr_get hC hK hM 38 (by decide) fl_X9_89 rfl (v := .ref (ma 38)) rfl dX9_lays_123 ?_
                              refine lv_aload_n hx hb dX9_lays_126 rfl (lv_at hl 4 rfl) ?_
                              refine mr_get hC hK hM 39 (by decide) fl_X9_92 rfl (v := .ref (ma 39)) rfl dX9_lays_127 ?_
                              refine lv_iload hx hb dX9_lays_130 (lv_at hl 2 rfl) ?_
                              refine mr_ild hC hK hM 39 (i := k) (show k < 64 from by omega) rfl (v := nI (fnd3 k)) (hf3 k hkm3) dX9_lays_132 ?_
                              refine mr_ild hC hK hM 38 (i := (fnd3 k)) (show fnd3 k < 64 from hB3.1 k hkm3) rfl (v := nI (fD F3 (fnd3 k))) (by rw [hF3 _ (hB3.1 k hkm3)]; obtain ⟨n9, a9, -⟩ := hB3.2.2.1 k hkm3; unfold fD; rw [a9]; rfl) dX9_lays_133 ?_
                              refine lv_iconst (v := 1) hx hb dX9_lays_134 (by decide) ?_
                              refine lv_iadd hx hb dX9_lays_135 ?_
                              refine top_i (y := nI ((fD F3 (fnd3 k)) + 1)) (nI_add (fD F3 (fnd3 k)) 1) ?_
                              refine mr_ist hC hK hI hM hS 38 (mA_k (by decide)) (i := k8) (show k8 < 64 from hc64) rfl dX9_lays_136 (fun H locs hM hS => ?_)
                              refine lv_aload_n hx hb dX9_lays_137 rfl (lv_at hl 4 rfl) ?_
                              refine mr_get hC hK hM 39 (by decide) fl_X9_92 rfl (v := .ref (ma 39)) rfl dX9_lays_138 ?_
                              refine lv_iload_n hx hb dX9_lays_141 rfl (lv_at hl 3 rfl) ?_
                              refine lv_iload hx hb dX9_lays_142 (lv_at hl 0 rfl) ?_
                              refine mr_ist hC hK hI hM hS 39 (mA_k (by decide)) (i := many3) (show many3 < 64 from BF_lt hB3 hc64 ho11) rfl dX9_lays_144 (fun H locs hM hS => ?_)
                              refine lv_iinc (v := nI (many3 + 1)) (lv' := [(3, .int (nI (many3 + 1))), (6, .int (nI k8)), (5, .int (nI w)), (4, .int (nI k)), (0, .ref (ma 0)), (1, .int (nI j)), (2, .int x)]) hx hb dX9_lays_145 hl (k := 3) rfl (nI_inc _) (by decide) rfl (fun ls hl => ?_)
                              refine lv_iinc (v := nI (w + 1)) (lv' := [(5, .int (nI (w + 1))), (3, .int (nI (many3 + 1))), (6, .int (nI k8)), (4, .int (nI k)), (0, .ref (ma 0)), (1, .int (nI j)), (2, .int x)]) hx hb dX9_lays_148 hl (k := 2) rfl (nI_inc _) (by decide) rfl (fun ls hl => ?_)
                              refine lv_goto (tgt := 64) hx hb dX9_lays_151 (by decide) ?_
                              exact ih6 (w + 1) (many3 + 1) (fun q => if q = k8 then some (fD F3 (fnd3 k) + 1) else F3 q) (fun i => if i = many3 then k8 else fnd3 i) (mset (mset M3 38 k8 (nI ((fD F3 (fnd3 k)) + 1))) 39 many3 (nI k8)) H locs ls (sc_set rfl (sc_set rfl hs3)) (fun q hq => by rw [mset_n _ _ _ (by decide), mset_s]; unfold upd; exact if e : q = k8 then (by rw [if_pos e, if_pos e]; rfl) else (by rw [if_neg e, if_neg e]; exact hF3 q hq)) (fun i hi => by rw [mset_s]; unfold upd; exact if e : i = many3 then (by rw [if_pos e, if_pos e]) else (by rw [if_neg e, if_neg e, mset_n _ _ _ (by decide)]; exact hf3 i (by omega))) (BF_push hB3 hkm3 (by omega) ho8 ho11 (by simp [frX, ho11, c_13f, c_14f])) (BN_push hB3 hkm3 ho11 hN3) (by omega) (by omega) hM hS (by omega) (lv_sub hl [0, 3, 1, 4, 5, 6] rfl)
                        · refine top_i (y := nI k11) rfl ?_
                          have hn64 := wk_path hB3 ho11 hN3
                          refine lv_iconst (v := (-1)) hx hb dX9_lays_97 (by decide) ?_
                          refine lv_icmp_ne (tgt := 148) hx hb dX9_lays_98 (by decide) (fun _ => ?_) (fun c => absurd c (nI_m1 (by omega)))
                          refine lv_iinc (v := nI (w + 1)) (lv' := [(5, .int (nI (w + 1))), (6, .int (nI k8)), (4, .int (nI k)), (3, .int (nI many3)), (0, .ref (ma 0)), (1, .int (nI j)), (2, .int x)]) hx hb dX9_lays_148 hl (k := 1) rfl (nI_inc _) (by decide) rfl (fun ls hl => ?_)
                          refine lv_goto (tgt := 64) hx hb dX9_lays_151 (by decide) ?_
                          exact ih6 (w + 1) many3 F3 fnd3 M3 H locs ls hs3 hF3 hf3 (BF_skip hB3 hkm3 (fun c9 h9 _ => by rw [ho8] at h9; cases h9; rw [ho11]; exact fun q => by cases q)) hN3 hkm3 (by omega) hM hS (by omega) (lv_sub hl [0, 2, 3, 4, 5, 6] rfl)
                exact loop6 ((4 - 0) + 1) 0 many F fnd M2 H locs ls hs2 hF hf hB hN (by omega) (by omega) hM hS (by omega) (lv_sub hl [0, 1, 2, 3, 4, 5] rfl)
          exact loop4 ((64 - 0) + 1) 0 0 (fun _ => none) (fun _ => 0) M1 H locs ls hs1 (fun c hc => h2 c (by omega)) (fun i hi => by omega) (BF_0 (by simp [frX, c_2t, c_3t]) _) (fun i hi => by omega) (Nat.le_refl _) hM hS (by omega) (lv_sub hl [0, 1, 2, 3, 4] rfl)
        · refine lv_iload_n hx hb dX9_lays_31 rfl (lv_at hl 2 rfl) ?_
          refine lv_iload_n hx hb dX9_lays_32 rfl (lv_at hl 3 rfl) ?_
          refine lv_icmp_eq (tgt := 52) hx hb dX9_lays_33 (by decide) (fun c_16t => ?_) (fun c_16f => ?_)
          · refine lv_iconst (v := 0) hx hb dX9_lays_52 (by decide) ?_
            refine lv_istore (lv' := [(4, .int 0), (3, .int 0), (0, .ref (ma 0)), (1, .int (nI j)), (2, .int x)]) hx hb dX9_lays_53 hl (by decide) rfl (fun ls hl => ?_)
            have loop17 : ∀ (n : Nat) (k : Nat) (many : Nat) (F : Nat → Option Nat) (fnd : Nat → Nat) (M2 : MS) (H : Heap) (locs : List Loc) (ls : Array Slot) (hs2 : ∀ k, scr k = false → k < 40 → M2 k = M k) (hF : ∀ c, c < 64 → M2 38 c = oI (F c)) (hf : ∀ i, i < many → M2 39 i = nI (fnd i)) (hB : BF (frX M x) j F fnd many k 0) (hN : ∀ i, i < many → fD F (fnd i) ≤ i) (hkm : k ≤ many) (hM : WM G ma M2 H) (hS : va_S (mA ma) s.heap H locs), 64 - k < n → lv_has ls 7 [(4, .int (nI k)), (3, .int (nI many)), (0, .ref (ma 0)), (1, .int (nI j)), (2, .int x)] → W p l e (rmL 2 0 0) s m args below meth c H locs 0 0 Q (F0 m 55 ls []) := by
              intro n
              induction n with
              | zero => intro k many F fnd M2 H locs ls hs2 hF hf hB hN hkm hM hS hm hl; omega
              | succ n ih17 =>
                intro k many F fnd M2 H locs ls hs2 hF hf hB hN hkm hM hS hm hl
                have hm64 := BF_many hB
                refine lv_iload hx hb dX9_lays_55 (lv_at hl 0 rfl) ?_
                refine lv_iload_n hx hb dX9_lays_57 rfl (lv_at hl 1 rfl) ?_
                refine ln_ge (tgt := 160) (a := k) (b := many) hx hb dX9_lays_58 (by decide) rfl rfl (by omega) (by omega) (fun c_18t => ?_) (fun c_18f => ?_)
                · subst hQ
                  exact rt_mv hx hb hr hlk (show WS G ma M (some (dS (frX M x) j)) H from ⟨M2, hs2, fun d hd c hc => by cases hd; rw [hF c hc, BF_end hB (by omega) c hc], hM⟩) hS  (rfl) dX9_lays_160
                · refine lv_iconst (v := 0) hx hb dX9_lays_61 (by decide) ?_
                  refine lv_istore (lv' := [(5, .int 0), (4, .int (nI k)), (3, .int (nI many)), (0, .ref (ma 0)), (1, .int (nI j)), (2, .int x)]) hx hb dX9_lays_62 hl (by decide) rfl (fun ls hl => ?_)
                  have loop19 : ∀ (n : Nat) (w : Nat) (many3 : Nat) (F3 : Nat → Option Nat) (fnd3 : Nat → Nat) (M3 : MS) (H : Heap) (locs : List Loc) (ls : Array Slot) (hs3 : ∀ k, scr k = false → k < 40 → M3 k = M k) (hF3 : ∀ c, c < 64 → M3 38 c = oI (F3 c)) (hf3 : ∀ i, i < many3 → M3 39 i = nI (fnd3 i)) (hB3 : BF (frX M x) j F3 fnd3 many3 k w) (hN3 : ∀ i, i < many3 → fD F3 (fnd3 i) ≤ i) (hkm3 : k < many3) (hw : w ≤ 4) (hM : WM G ma M3 H) (hS : va_S (mA ma) s.heap H locs), 4 - w < n → lv_has ls 7 [(5, .int (nI w)), (4, .int (nI k)), (3, .int (nI many3)), (0, .ref (ma 0)), (1, .int (nI j)), (2, .int x)] → W p l e (rmL 2 0 0) s m args below meth c H locs 0 0 Q (F0 m 64 ls []) := by
                    intro n
                    induction n with
                    | zero => intro w many3 F3 fnd3 M3 H locs ls hs3 hF3 hf3 hB3 hN3 hkm3 hw hM hS hm hl; omega
                    | succ n ih19 =>
                      intro w many3 F3 fnd3 M3 H locs ls hs3 hF3 hf3 hB3 hN3 hkm3 hw hM hS hm hl
                      have hm3 := BF_many hB3
                      refine lv_iload hx hb dX9_lays_64 (lv_at hl 0 rfl) ?_
                      refine lv_iconst (v := 4) hx hb dX9_lays_66 (by decide) ?_
                      refine ln_ge (tgt := 154) (a := w) (b := 4) hx hb dX9_lays_67 (by decide) rfl rfl (by omega) (by omega) (fun c_20t => ?_) (fun c_20f => ?_)
                      · refine lv_iinc (v := nI (k + 1)) (lv' := [(4, .int (nI (k + 1))), (5, .int (nI w)), (3, .int (nI many3)), (0, .ref (ma 0)), (1, .int (nI j)), (2, .int x)]) hx hb dX9_lays_154 hl (k := 1) rfl (nI_inc _) (by decide) rfl (fun ls hl => ?_)
                        refine lv_goto (tgt := 55) hx hb dX9_lays_157 (by decide) ?_
                        exact ih17 (k + 1) many3 F3 fnd3 M3 H locs ls hs3 hF3 hf3 (BF_next (by rw [show (4 : Nat) = w by omega]; exact hB3) (by omega)) hN3 (by omega) hM hS (by omega) (lv_sub hl [0, 2, 3, 4, 5] rfl)
                      · refine lv_aload_n hx hb dX9_lays_70 rfl (lv_at hl 3 rfl) ?_
                        refine mr_get hC hK hM 39 (by decide) fl_X9_92 rfl (v := .ref (ma 39)) rfl dX9_lays_71 ?_
                        refine lv_iload hx hb dX9_lays_74 (lv_at hl 1 rfl) ?_
                        refine mr_ild hC hK hM 39 (i := k) (show k < 64 from by omega) rfl (v := nI (fnd3 k)) (hf3 k hkm3) dX9_lays_76 ?_
                        refine lv_iload hx hb dX9_lays_77 (lv_at hl 0 rfl) ?_
                        refine cl_p (run_S hC (c9_neighbour l (fnd3 k) w (hB3.1 k hkm3) (by omega)) (As := [.int (nI (fnd3 k)), .int (nI w)]) (rest := []) rfl rfl ml_X9_120 sm_X9_neighbour ini_X9 cd_X9_neighbour na_X9_neighbour tB_blind (fun _ _ _ => trivial) hl.1 (Nat.le_of_ble_eq_true rfl) ⟨Nat.le_of_ble_eq_true rfl, Nat.le_of_ble_eq_true rfl⟩ ⟨Nat.le_refl _, Nat.le_refl _⟩ rfl dX9_lays_79) ?_
                        rcases ho21 : nbr (fnd3 k) w with _ | k21
                        · refine top_i (y := -1) rfl ?_
                          refine lv_istore (lv' := [(6, .int (-1)), (5, .int (nI w)), (4, .int (nI k)), (3, .int (nI many3)), (0, .ref (ma 0)), (1, .int (nI j)), (2, .int x)]) hx hb dX9_lays_82 hl (by decide) rfl (fun ls hl => ?_)
                          refine lv_iload hx hb dX9_lays_84 (lv_at hl 0 rfl) ?_
                          refine lv_iconst (v := (-1)) hx hb dX9_lays_86 (by decide) ?_
                          refine lv_icmp_eq (tgt := 148) hx hb dX9_lays_87 (by decide) (fun _ => ?_) (fun c => absurd c (by decide))
                          refine lv_iinc (v := nI (w + 1)) (lv' := [(5, .int (nI (w + 1))), (6, .int (-1)), (4, .int (nI k)), (3, .int (nI many3)), (0, .ref (ma 0)), (1, .int (nI j)), (2, .int x)]) hx hb dX9_lays_148 hl (k := 1) rfl (nI_inc _) (by decide) rfl (fun ls hl => ?_)
                          refine lv_goto (tgt := 64) hx hb dX9_lays_151 (by decide) ?_
                          exact ih19 (w + 1) many3 F3 fnd3 M3 H locs ls hs3 hF3 hf3 (BF_skip hB3 hkm3 (fun c9 h9 => by rw [ho21] at h9; cases h9)) hN3 hkm3 (by omega) hM hS (by omega) (lv_sub hl [0, 2, 3, 4, 5, 6] rfl)
                        · refine top_i (y := nI k21) rfl ?_
                          have hc64 := nbr_lt _ (hB3.1 k hkm3) w (by omega) _ ho21
                          refine lv_istore (lv' := [(6, .int (nI k21)), (5, .int (nI w)), (4, .int (nI k)), (3, .int (nI many3)), (0, .ref (ma 0)), (1, .int (nI j)), (2, .int x)]) hx hb dX9_lays_82 hl (by decide) rfl (fun ls hl => ?_)
                          refine lv_iload hx hb dX9_lays_84 (lv_at hl 0 rfl) ?_
                          refine lv_iconst (v := (-1)) hx hb dX9_lays_86 (by decide) ?_
                          refine lv_icmp_eq (tgt := 148) hx hb dX9_lays_87 (by decide) (fun c => absurd c (nI_m1 (by omega))) (fun _ => ?_)
                          refine lv_aload_n hx hb dX9_lays_90 rfl (lv_at hl 4 rfl) ?_
                          refine mr_get hC hK hM 38 (by decide) fl_X9_89 rfl (v := .ref (ma 38)) rfl dX9_lays_91 ?_
                          refine lv_iload hx hb dX9_lays_94 (lv_at hl 0 rfl) ?_
                          refine mr_ild hC hK hM 38 (i := k21) (show k21 < 64 from hc64) rfl (v := oI (F3 k21)) (hF3 _ hc64) dX9_lays_96 ?_
                          rcases ho24 : F3 k21 with _ | k24
                          · refine top_i (y := -1) rfl ?_
                            refine lv_iconst (v := (-1)) hx hb dX9_lays_97 (by decide) ?_
                            refine lv_icmp_ne (tgt := 148) hx hb dX9_lays_98 (by decide) (fun c => absurd c (by decide)) (fun _ => ?_)
                            refine lv_iload hx hb dX9_lays_101 (lv_at hl 0 rfl) ?_
                            refine lv_iload_n hx hb dX9_lays_103 rfl (lv_at hl 6 rfl) ?_
                            refine lv_icmp_eq (tgt := 148) hx hb dX9_lays_104 (by decide) (fun c_26t => ?_) (fun c_26f => ?_)
                            · refine lv_iinc (v := nI (w + 1)) (lv' := [(5, .int (nI (w + 1))), (6, .int (nI k21)), (4, .int (nI k)), (3, .int (nI many3)), (0, .ref (ma 0)), (1, .int (nI j)), (2, .int x)]) hx hb dX9_lays_148 hl (k := 1) rfl (nI_inc _) (by decide) rfl (fun ls hl => ?_)
                              refine lv_goto (tgt := 64) hx hb dX9_lays_151 (by decide) ?_
                              exact ih19 (w + 1) many3 F3 fnd3 M3 H locs ls hs3 hF3 hf3 (BF_skip hB3 hkm3 (fun c9 h9 h8 => by rw [ho21] at h9; cases h9; exfalso; simp [frX, c_26t] at h8)) hN3 hkm3 (by omega) hM hS (by omega) (lv_sub hl [0, 2, 3, 4, 5, 6] rfl)
                            · refine lv_aload_n hx hb dX9_lays_107 rfl (lv_at hl 4 rfl) ?_
                              refine lv_iload hx hb dX9_lays_108 (lv_at hl 0 rfl) ?_
                              refine cl_pi (x := bI (opnB M k21)) (run_V hC (c9_isOpen l G ma M3 none k21 (cnt_congr hcnt hs3) (by omega)) (As := [.int (nI k21)]) (rest := []) rfl rfl ml_X9_116 im_X9_isOpen se_X9_isOpen ini_X9 cd_X9_isOpen ⟨rfl, na_X9_isOpen⟩ mB_blind (mr_recv hK (WS.of hM)) (mr_B hK (WS.of hM)) hl.1 (Nat.le_of_ble_eq_true rfl) ⟨Nat.le_of_ble_eq_true rfl, Nat.le_of_ble_eq_true rfl⟩ ⟨Nat.le_refl _, Nat.le_refl _⟩ rfl dX9_lays_110) (congrArg bI (opnB_congr hs3 _)) ?_
                              refine lb_eq (tgt := 148) (b := (opnB M k21)) hx hb dX9_lays_113 (by decide) (fun c_27t => ?_) (fun c_27f => ?_)
                              · refine lv_iinc (v := nI (w + 1)) (lv' := [(5, .int (nI (w + 1))), (6, .int (nI k21)), (4, .int (nI k)), (3, .int (nI many3)), (0, .ref (ma 0)), (1, .int (nI j)), (2, .int x)]) hx hb dX9_lays_148 hl (k := 1) rfl (nI_inc _) (by decide) rfl (fun ls hl => ?_)
                                refine lv_goto (tgt := 64) hx hb dX9_lays_151 (by decide) ?_
                                exact ih19 (w + 1) many3 F3 fnd3 M3 H locs ls hs3 hF3 hf3 (BF_skip hB3 hkm3 (fun c9 h9 h8 => by rw [ho21] at h9; cases h9; exfalso; simp [frX, c_27t] at h8)) hN3 hkm3 (by omega) hM hS (by omega) (lv_sub hl [0, 2, 3, 4, 5, 6] rfl)
                              · refine lv_aload_n hx hb dX9_lays_116 rfl (lv_at hl 4 rfl) ?_
                                refine mr_get hC hK hM 38 (by decide) fl_X9_89 rfl (v := .ref (ma 38)) rfl dX9_lays_117 ?_
                                refine lv_iload hx hb dX9_lays_120 (lv_at hl 0 rfl) ?_
                                refine lv_aload_n hx hb dX9_lays_122 rfl (lv_at hl 4 rfl) ?_
                                refine mr_get hC hK hM 38 (by decide) fl_X9_89 rfl (v := .ref (ma 38)) rfl dX9_lays_123 ?_
                                refine lv_aload_n hx hb dX9_lays_126 rfl (lv_at hl 4 rfl) ?_
                                refine mr_get hC hK hM 39 (by decide) fl_X9_92 rfl (v := .ref (ma 39)) rfl dX9_lays_127 ?_
                                refine lv_iload hx hb dX9_lays_130 (lv_at hl 2 rfl) ?_
                                refine mr_ild hC hK hM 39 (i := k) (show k < 64 from by omega) rfl (v := nI (fnd3 k)) (hf3 k hkm3) dX9_lays_132 ?_
                                refine mr_ild hC hK hM 38 (i := (fnd3 k)) (show fnd3 k < 64 from hB3.1 k hkm3) rfl (v := nI (fD F3 (fnd3 k))) (by rw [hF3 _ (hB3.1 k hkm3)]; obtain ⟨n9, a9, -⟩ := hB3.2.2.1 k hkm3; unfold fD; rw [a9]; rfl) dX9_lays_133 ?_
                                refine lv_iconst (v := 1) hx hb dX9_lays_134 (by decide) ?_
                                refine lv_iadd hx hb dX9_lays_135 ?_
                                refine top_i (y := nI ((fD F3 (fnd3 k)) + 1)) (nI_add (fD F3 (fnd3 k)) 1) ?_
                                refine mr_ist hC hK hI hM hS 38 (mA_k (by decide)) (i := k21) (show k21 < 64 from hc64) rfl dX9_lays_136 (fun H locs hM hS => ?_)
                                refine lv_aload_n hx hb dX9_lays_137 rfl (lv_at hl 4 rfl) ?_
                                refine mr_get hC hK hM 39 (by decide) fl_X9_92 rfl (v := .ref (ma 39)) rfl dX9_lays_138 ?_
                                refine lv_iload_n hx hb dX9_lays_141 rfl (lv_at hl 3 rfl) ?_
                                refine lv_iload hx hb dX9_lays_142 (lv_at hl 0 rfl) ?_
                                refine mr_ist hC hK hI hM hS 39 (mA_k (by decide)) (i := many3) (show many3 < 64 from BF_lt hB3 hc64 ho24) rfl dX9_lays_144 (fun H locs hM hS => ?_)
                                refine lv_iinc (v := nI (many3 + 1)) (lv' := [(3, .int (nI (many3 + 1))), (6, .int (nI k21)), (5, .int (nI w)), (4, .int (nI k)), (0, .ref (ma 0)), (1, .int (nI j)), (2, .int x)]) hx hb dX9_lays_145 hl (k := 3) rfl (nI_inc _) (by decide) rfl (fun ls hl => ?_)
                                refine lv_iinc (v := nI (w + 1)) (lv' := [(5, .int (nI (w + 1))), (3, .int (nI (many3 + 1))), (6, .int (nI k21)), (4, .int (nI k)), (0, .ref (ma 0)), (1, .int (nI j)), (2, .int x)]) hx hb dX9_lays_148 hl (k := 2) rfl (nI_inc _) (by decide) rfl (fun ls hl => ?_)
                                refine lv_goto (tgt := 64) hx hb dX9_lays_151 (by decide) ?_
                                exact ih19 (w + 1) (many3 + 1) (fun q => if q = k21 then some (fD F3 (fnd3 k) + 1) else F3 q) (fun i => if i = many3 then k21 else fnd3 i) (mset (mset M3 38 k21 (nI ((fD F3 (fnd3 k)) + 1))) 39 many3 (nI k21)) H locs ls (sc_set rfl (sc_set rfl hs3)) (fun q hq => by rw [mset_n _ _ _ (by decide), mset_s]; unfold upd; exact if e : q = k21 then (by rw [if_pos e, if_pos e]; rfl) else (by rw [if_neg e, if_neg e]; exact hF3 q hq)) (fun i hi => by rw [mset_s]; unfold upd; exact if e : i = many3 then (by rw [if_pos e, if_pos e]) else (by rw [if_neg e, if_neg e, mset_n _ _ _ (by decide)]; exact hf3 i (by omega))) (BF_push hB3 hkm3 (by omega) ho21 ho24 (by simp [frX, ho24, c_26f, c_27f])) (BN_push hB3 hkm3 ho24 hN3) (by omega) (by omega) hM hS (by omega) (lv_sub hl [0, 3, 1, 4, 5, 6] rfl)
                          · refine top_i (y := nI k24) rfl ?_
                            have hn64 := wk_path hB3 ho24 hN3
                            refine lv_iconst (v := (-1)) hx hb dX9_lays_97 (by decide) ?_
                            refine lv_icmp_ne (tgt := 148) hx hb dX9_lays_98 (by decide) (fun _ => ?_) (fun c => absurd c (nI_m1 (by omega)))
                            refine lv_iinc (v := nI (w + 1)) (lv' := [(5, .int (nI (w + 1))), (6, .int (nI k21)), (4, .int (nI k)), (3, .int (nI many3)), (0, .ref (ma 0)), (1, .int (nI j)), (2, .int x)]) hx hb dX9_lays_148 hl (k := 1) rfl (nI_inc _) (by decide) rfl (fun ls hl => ?_)
                            refine lv_goto (tgt := 64) hx hb dX9_lays_151 (by decide) ?_
                            exact ih19 (w + 1) many3 F3 fnd3 M3 H locs ls hs3 hF3 hf3 (BF_skip hB3 hkm3 (fun c9 h9 _ => by rw [ho21] at h9; cases h9; rw [ho24]; exact fun q => by cases q)) hN3 hkm3 (by omega) hM hS (by omega) (lv_sub hl [0, 2, 3, 4, 5, 6] rfl)
                  exact loop19 ((4 - 0) + 1) 0 many F fnd M2 H locs ls hs2 hF hf hB hN (by omega) (by omega) hM hS (by omega) (lv_sub hl [0, 1, 2, 3, 4, 5] rfl)
            exact loop17 ((64 - 0) + 1) 0 0 (fun _ => none) (fun _ => 0) M1 H locs ls hs1 (fun c hc => h2 c (by omega)) (fun i hi => by omega) (BF_0 (by simp [frX, c_2t, c_3f, c_16t]) _) (fun i hi => by omega) (Nat.le_refl _) hM hS (by omega) (lv_sub hl [0, 1, 2, 3, 4] rfl)
          · refine lv_aload_n hx hb dX9_lays_36 rfl (lv_at hl 1 rfl) ?_
            refine mr_get hC hK hM 38 (by decide) fl_X9_89 rfl (v := .ref (ma 38)) rfl dX9_lays_37 ?_
            refine lv_iload_n hx hb dX9_lays_40 rfl (lv_at hl 2 rfl) ?_
            refine lv_iconst (v := 0) hx hb dX9_lays_41 (by decide) ?_
            refine mr_ist hC hK hI hM hS 38 (mA_k (by decide)) (i := j) (show j < 64 from by omega) rfl dX9_lays_42 (fun H locs hM hS => ?_)
            refine lv_aload_n hx hb dX9_lays_43 rfl (lv_at hl 1 rfl) ?_
            refine mr_get hC hK hM 39 (by decide) fl_X9_92 rfl (v := .ref (ma 39)) rfl dX9_lays_44 ?_
            refine lv_iconst (v := 0) hx hb dX9_lays_47 (by decide) ?_
            refine lv_iload_n hx hb dX9_lays_48 rfl (lv_at hl 2 rfl) ?_
            refine mr_ist hC hK hI hM hS 39 (mA_k (by decide)) (i := 0) (show 0 < 64 from by omega) rfl dX9_lays_49 (fun H locs hM hS => ?_)
            refine lv_iconst (v := 1) hx hb dX9_lays_50 (by decide) ?_
            refine lv_istore_n (lv' := [(3, .int 1), (0, .ref (ma 0)), (1, .int (nI j)), (2, .int x)]) hx hb dX9_lays_51 rfl hl (by decide) rfl (fun ls hl => ?_)
            refine lv_iconst (v := 0) hx hb dX9_lays_52 (by decide) ?_
            refine lv_istore (lv' := [(4, .int 0), (3, .int 1), (0, .ref (ma 0)), (1, .int (nI j)), (2, .int x)]) hx hb dX9_lays_53 hl (by decide) rfl (fun ls hl => ?_)
            have loop29 : ∀ (n : Nat) (k : Nat) (many : Nat) (F : Nat → Option Nat) (fnd : Nat → Nat) (M2 : MS) (H : Heap) (locs : List Loc) (ls : Array Slot) (hs2 : ∀ k, scr k = false → k < 40 → M2 k = M k) (hF : ∀ c, c < 64 → M2 38 c = oI (F c)) (hf : ∀ i, i < many → M2 39 i = nI (fnd i)) (hB : BF (frX M x) j F fnd many k 0) (hN : ∀ i, i < many → fD F (fnd i) ≤ i) (hkm : k ≤ many) (hM : WM G ma M2 H) (hS : va_S (mA ma) s.heap H locs), 64 - k < n → lv_has ls 7 [(4, .int (nI k)), (3, .int (nI many)), (0, .ref (ma 0)), (1, .int (nI j)), (2, .int x)] → W p l e (rmL 2 0 0) s m args below meth c H locs 0 0 Q (F0 m 55 ls []) := by
              intro n
              induction n with
              | zero => intro k many F fnd M2 H locs ls hs2 hF hf hB hN hkm hM hS hm hl; omega
              | succ n ih29 =>
                intro k many F fnd M2 H locs ls hs2 hF hf hB hN hkm hM hS hm hl
                have hm64 := BF_many hB
                refine lv_iload hx hb dX9_lays_55 (lv_at hl 0 rfl) ?_
                refine lv_iload_n hx hb dX9_lays_57 rfl (lv_at hl 1 rfl) ?_
                refine ln_ge (tgt := 160) (a := k) (b := many) hx hb dX9_lays_58 (by decide) rfl rfl (by omega) (by omega) (fun c_30t => ?_) (fun c_30f => ?_)
                · subst hQ
                  exact rt_mv hx hb hr hlk (show WS G ma M (some (dS (frX M x) j)) H from ⟨M2, hs2, fun d hd c hc => by cases hd; rw [hF c hc, BF_end hB (by omega) c hc], hM⟩) hS  (rfl) dX9_lays_160
                · refine lv_iconst (v := 0) hx hb dX9_lays_61 (by decide) ?_
                  refine lv_istore (lv' := [(5, .int 0), (4, .int (nI k)), (3, .int (nI many)), (0, .ref (ma 0)), (1, .int (nI j)), (2, .int x)]) hx hb dX9_lays_62 hl (by decide) rfl (fun ls hl => ?_)
                  have loop31 : ∀ (n : Nat) (w : Nat) (many3 : Nat) (F3 : Nat → Option Nat) (fnd3 : Nat → Nat) (M3 : MS) (H : Heap) (locs : List Loc) (ls : Array Slot) (hs3 : ∀ k, scr k = false → k < 40 → M3 k = M k) (hF3 : ∀ c, c < 64 → M3 38 c = oI (F3 c)) (hf3 : ∀ i, i < many3 → M3 39 i = nI (fnd3 i)) (hB3 : BF (frX M x) j F3 fnd3 many3 k w) (hN3 : ∀ i, i < many3 → fD F3 (fnd3 i) ≤ i) (hkm3 : k < many3) (hw : w ≤ 4) (hM : WM G ma M3 H) (hS : va_S (mA ma) s.heap H locs), 4 - w < n → lv_has ls 7 [(5, .int (nI w)), (4, .int (nI k)), (3, .int (nI many3)), (0, .ref (ma 0)), (1, .int (nI j)), (2, .int x)] → W p l e (rmL 2 0 0) s m args below meth c H locs 0 0 Q (F0 m 64 ls []) := by
                    intro n
                    induction n with
                    | zero => intro w many3 F3 fnd3 M3 H locs ls hs3 hF3 hf3 hB3 hN3 hkm3 hw hM hS hm hl; omega
                    | succ n ih31 =>
                      intro w many3 F3 fnd3 M3 H locs ls hs3 hF3 hf3 hB3 hN3 hkm3 hw hM hS hm hl
                      have hm3 := BF_many hB3
                      refine lv_iload hx hb dX9_lays_64 (lv_at hl 0 rfl) ?_
                      refine lv_iconst (v := 4) hx hb dX9_lays_66 (by decide) ?_
                      refine ln_ge (tgt := 154) (a := w) (b := 4) hx hb dX9_lays_67 (by decide) rfl rfl (by omega) (by omega) (fun c_32t => ?_) (fun c_32f => ?_)
                      · refine lv_iinc (v := nI (k + 1)) (lv' := [(4, .int (nI (k + 1))), (5, .int (nI w)), (3, .int (nI many3)), (0, .ref (ma 0)), (1, .int (nI j)), (2, .int x)]) hx hb dX9_lays_154 hl (k := 1) rfl (nI_inc _) (by decide) rfl (fun ls hl => ?_)
                        refine lv_goto (tgt := 55) hx hb dX9_lays_157 (by decide) ?_
                        exact ih29 (k + 1) many3 F3 fnd3 M3 H locs ls hs3 hF3 hf3 (BF_next (by rw [show (4 : Nat) = w by omega]; exact hB3) (by omega)) hN3 (by omega) hM hS (by omega) (lv_sub hl [0, 2, 3, 4, 5] rfl)
                      · refine lv_aload_n hx hb dX9_lays_70 rfl (lv_at hl 3 rfl) ?_
                        refine mr_get hC hK hM 39 (by decide) fl_X9_92 rfl (v := .ref (ma 39)) rfl dX9_lays_71 ?_
                        refine lv_iload hx hb dX9_lays_74 (lv_at hl 1 rfl) ?_
                        refine mr_ild hC hK hM 39 (i := k) (show k < 64 from by omega) rfl (v := nI (fnd3 k)) (hf3 k hkm3) dX9_lays_76 ?_
                        refine lv_iload hx hb dX9_lays_77 (lv_at hl 0 rfl) ?_
                        refine cl_p (run_S hC (c9_neighbour l (fnd3 k) w (hB3.1 k hkm3) (by omega)) (As := [.int (nI (fnd3 k)), .int (nI w)]) (rest := []) rfl rfl ml_X9_120 sm_X9_neighbour ini_X9 cd_X9_neighbour na_X9_neighbour tB_blind (fun _ _ _ => trivial) hl.1 (Nat.le_of_ble_eq_true rfl) ⟨Nat.le_of_ble_eq_true rfl, Nat.le_of_ble_eq_true rfl⟩ ⟨Nat.le_refl _, Nat.le_refl _⟩ rfl dX9_lays_79) ?_
                        rcases ho33 : nbr (fnd3 k) w with _ | k33
                        · refine top_i (y := -1) rfl ?_
                          refine lv_istore (lv' := [(6, .int (-1)), (5, .int (nI w)), (4, .int (nI k)), (3, .int (nI many3)), (0, .ref (ma 0)), (1, .int (nI j)), (2, .int x)]) hx hb dX9_lays_82 hl (by decide) rfl (fun ls hl => ?_)
                          refine lv_iload hx hb dX9_lays_84 (lv_at hl 0 rfl) ?_
                          refine lv_iconst (v := (-1)) hx hb dX9_lays_86 (by decide) ?_
                          refine lv_icmp_eq (tgt := 148) hx hb dX9_lays_87 (by decide) (fun _ => ?_) (fun c => absurd c (by decide))
                          refine lv_iinc (v := nI (w + 1)) (lv' := [(5, .int (nI (w + 1))), (6, .int (-1)), (4, .int (nI k)), (3, .int (nI many3)), (0, .ref (ma 0)), (1, .int (nI j)), (2, .int x)]) hx hb dX9_lays_148 hl (k := 1) rfl (nI_inc _) (by decide) rfl (fun ls hl => ?_)
                          refine lv_goto (tgt := 64) hx hb dX9_lays_151 (by decide) ?_
                          exact ih31 (w + 1) many3 F3 fnd3 M3 H locs ls hs3 hF3 hf3 (BF_skip hB3 hkm3 (fun c9 h9 => by rw [ho33] at h9; cases h9)) hN3 hkm3 (by omega) hM hS (by omega) (lv_sub hl [0, 2, 3, 4, 5, 6] rfl)
                        · refine top_i (y := nI k33) rfl ?_
                          have hc64 := nbr_lt _ (hB3.1 k hkm3) w (by omega) _ ho33
                          refine lv_istore (lv' := [(6, .int (nI k33)), (5, .int (nI w)), (4, .int (nI k)), (3, .int (nI many3)), (0, .ref (ma 0)), (1, .int (nI j)), (2, .int x)]) hx hb dX9_lays_82 hl (by decide) rfl (fun ls hl => ?_)
                          refine lv_iload hx hb dX9_lays_84 (lv_at hl 0 rfl) ?_
                          refine lv_iconst (v := (-1)) hx hb dX9_lays_86 (by decide) ?_
                          refine lv_icmp_eq (tgt := 148) hx hb dX9_lays_87 (by decide) (fun c => absurd c (nI_m1 (by omega))) (fun _ => ?_)
                          refine lv_aload_n hx hb dX9_lays_90 rfl (lv_at hl 4 rfl) ?_
                          refine mr_get hC hK hM 38 (by decide) fl_X9_89 rfl (v := .ref (ma 38)) rfl dX9_lays_91 ?_
                          refine lv_iload hx hb dX9_lays_94 (lv_at hl 0 rfl) ?_
                          refine mr_ild hC hK hM 38 (i := k33) (show k33 < 64 from hc64) rfl (v := oI (F3 k33)) (hF3 _ hc64) dX9_lays_96 ?_
                          rcases ho36 : F3 k33 with _ | k36
                          · refine top_i (y := -1) rfl ?_
                            refine lv_iconst (v := (-1)) hx hb dX9_lays_97 (by decide) ?_
                            refine lv_icmp_ne (tgt := 148) hx hb dX9_lays_98 (by decide) (fun c => absurd c (by decide)) (fun _ => ?_)
                            refine lv_iload hx hb dX9_lays_101 (lv_at hl 0 rfl) ?_
                            refine lv_iload_n hx hb dX9_lays_103 rfl (lv_at hl 6 rfl) ?_
                            refine lv_icmp_eq (tgt := 148) hx hb dX9_lays_104 (by decide) (fun c_38t => ?_) (fun c_38f => ?_)
                            · refine lv_iinc (v := nI (w + 1)) (lv' := [(5, .int (nI (w + 1))), (6, .int (nI k33)), (4, .int (nI k)), (3, .int (nI many3)), (0, .ref (ma 0)), (1, .int (nI j)), (2, .int x)]) hx hb dX9_lays_148 hl (k := 1) rfl (nI_inc _) (by decide) rfl (fun ls hl => ?_)
                              refine lv_goto (tgt := 64) hx hb dX9_lays_151 (by decide) ?_
                              exact ih31 (w + 1) many3 F3 fnd3 M3 H locs ls hs3 hF3 hf3 (BF_skip hB3 hkm3 (fun c9 h9 h8 => by rw [ho33] at h9; cases h9; exfalso; simp [frX, c_38t] at h8)) hN3 hkm3 (by omega) hM hS (by omega) (lv_sub hl [0, 2, 3, 4, 5, 6] rfl)
                            · refine lv_aload_n hx hb dX9_lays_107 rfl (lv_at hl 4 rfl) ?_
                              refine lv_iload hx hb dX9_lays_108 (lv_at hl 0 rfl) ?_
                              refine cl_pi (x := bI (opnB M k33)) (run_V hC (c9_isOpen l G ma M3 none k33 (cnt_congr hcnt hs3) (by omega)) (As := [.int (nI k33)]) (rest := []) rfl rfl ml_X9_116 im_X9_isOpen se_X9_isOpen ini_X9 cd_X9_isOpen ⟨rfl, na_X9_isOpen⟩ mB_blind (mr_recv hK (WS.of hM)) (mr_B hK (WS.of hM)) hl.1 (Nat.le_of_ble_eq_true rfl) ⟨Nat.le_of_ble_eq_true rfl, Nat.le_of_ble_eq_true rfl⟩ ⟨Nat.le_refl _, Nat.le_refl _⟩ rfl dX9_lays_110) (congrArg bI (opnB_congr hs3 _)) ?_
                              refine lb_eq (tgt := 148) (b := (opnB M k33)) hx hb dX9_lays_113 (by decide) (fun c_39t => ?_) (fun c_39f => ?_)
                              · refine lv_iinc (v := nI (w + 1)) (lv' := [(5, .int (nI (w + 1))), (6, .int (nI k33)), (4, .int (nI k)), (3, .int (nI many3)), (0, .ref (ma 0)), (1, .int (nI j)), (2, .int x)]) hx hb dX9_lays_148 hl (k := 1) rfl (nI_inc _) (by decide) rfl (fun ls hl => ?_)
                                refine lv_goto (tgt := 64) hx hb dX9_lays_151 (by decide) ?_
                                exact ih31 (w + 1) many3 F3 fnd3 M3 H locs ls hs3 hF3 hf3 (BF_skip hB3 hkm3 (fun c9 h9 h8 => by rw [ho33] at h9; cases h9; exfalso; simp [frX, c_39t] at h8)) hN3 hkm3 (by omega) hM hS (by omega) (lv_sub hl [0, 2, 3, 4, 5, 6] rfl)
                              · refine lv_aload_n hx hb dX9_lays_116 rfl (lv_at hl 4 rfl) ?_
                                refine mr_get hC hK hM 38 (by decide) fl_X9_89 rfl (v := .ref (ma 38)) rfl dX9_lays_117 ?_
                                refine lv_iload hx hb dX9_lays_120 (lv_at hl 0 rfl) ?_
                                refine lv_aload_n hx hb dX9_lays_122 rfl (lv_at hl 4 rfl) ?_
                                refine mr_get hC hK hM 38 (by decide) fl_X9_89 rfl (v := .ref (ma 38)) rfl dX9_lays_123 ?_
                                refine lv_aload_n hx hb dX9_lays_126 rfl (lv_at hl 4 rfl) ?_
                                refine mr_get hC hK hM 39 (by decide) fl_X9_92 rfl (v := .ref (ma 39)) rfl dX9_lays_127 ?_
                                refine lv_iload hx hb dX9_lays_130 (lv_at hl 2 rfl) ?_
                                refine mr_ild hC hK hM 39 (i := k) (show k < 64 from by omega) rfl (v := nI (fnd3 k)) (hf3 k hkm3) dX9_lays_132 ?_
                                refine mr_ild hC hK hM 38 (i := (fnd3 k)) (show fnd3 k < 64 from hB3.1 k hkm3) rfl (v := nI (fD F3 (fnd3 k))) (by rw [hF3 _ (hB3.1 k hkm3)]; obtain ⟨n9, a9, -⟩ := hB3.2.2.1 k hkm3; unfold fD; rw [a9]; rfl) dX9_lays_133 ?_
                                refine lv_iconst (v := 1) hx hb dX9_lays_134 (by decide) ?_
                                refine lv_iadd hx hb dX9_lays_135 ?_
                                refine top_i (y := nI ((fD F3 (fnd3 k)) + 1)) (nI_add (fD F3 (fnd3 k)) 1) ?_
                                refine mr_ist hC hK hI hM hS 38 (mA_k (by decide)) (i := k33) (show k33 < 64 from hc64) rfl dX9_lays_136 (fun H locs hM hS => ?_)
                                refine lv_aload_n hx hb dX9_lays_137 rfl (lv_at hl 4 rfl) ?_
                                refine mr_get hC hK hM 39 (by decide) fl_X9_92 rfl (v := .ref (ma 39)) rfl dX9_lays_138 ?_
                                refine lv_iload_n hx hb dX9_lays_141 rfl (lv_at hl 3 rfl) ?_
                                refine lv_iload hx hb dX9_lays_142 (lv_at hl 0 rfl) ?_
                                refine mr_ist hC hK hI hM hS 39 (mA_k (by decide)) (i := many3) (show many3 < 64 from BF_lt hB3 hc64 ho36) rfl dX9_lays_144 (fun H locs hM hS => ?_)
                                refine lv_iinc (v := nI (many3 + 1)) (lv' := [(3, .int (nI (many3 + 1))), (6, .int (nI k33)), (5, .int (nI w)), (4, .int (nI k)), (0, .ref (ma 0)), (1, .int (nI j)), (2, .int x)]) hx hb dX9_lays_145 hl (k := 3) rfl (nI_inc _) (by decide) rfl (fun ls hl => ?_)
                                refine lv_iinc (v := nI (w + 1)) (lv' := [(5, .int (nI (w + 1))), (3, .int (nI (many3 + 1))), (6, .int (nI k33)), (4, .int (nI k)), (0, .ref (ma 0)), (1, .int (nI j)), (2, .int x)]) hx hb dX9_lays_148 hl (k := 2) rfl (nI_inc _) (by decide) rfl (fun ls hl => ?_)
                                refine lv_goto (tgt := 64) hx hb dX9_lays_151 (by decide) ?_
                                exact ih31 (w + 1) (many3 + 1) (fun q => if q = k33 then some (fD F3 (fnd3 k) + 1) else F3 q) (fun i => if i = many3 then k33 else fnd3 i) (mset (mset M3 38 k33 (nI ((fD F3 (fnd3 k)) + 1))) 39 many3 (nI k33)) H locs ls (sc_set rfl (sc_set rfl hs3)) (fun q hq => by rw [mset_n _ _ _ (by decide), mset_s]; unfold upd; exact if e : q = k33 then (by rw [if_pos e, if_pos e]; rfl) else (by rw [if_neg e, if_neg e]; exact hF3 q hq)) (fun i hi => by rw [mset_s]; unfold upd; exact if e : i = many3 then (by rw [if_pos e, if_pos e]) else (by rw [if_neg e, if_neg e, mset_n _ _ _ (by decide)]; exact hf3 i (by omega))) (BF_push hB3 hkm3 (by omega) ho33 ho36 (by simp [frX, ho36, c_38f, c_39f])) (BN_push hB3 hkm3 ho36 hN3) (by omega) (by omega) hM hS (by omega) (lv_sub hl [0, 3, 1, 4, 5, 6] rfl)
                          · refine top_i (y := nI k36) rfl ?_
                            have hn64 := wk_path hB3 ho36 hN3
                            refine lv_iconst (v := (-1)) hx hb dX9_lays_97 (by decide) ?_
                            refine lv_icmp_ne (tgt := 148) hx hb dX9_lays_98 (by decide) (fun _ => ?_) (fun c => absurd c (nI_m1 (by omega)))
                            refine lv_iinc (v := nI (w + 1)) (lv' := [(5, .int (nI (w + 1))), (6, .int (nI k33)), (4, .int (nI k)), (3, .int (nI many3)), (0, .ref (ma 0)), (1, .int (nI j)), (2, .int x)]) hx hb dX9_lays_148 hl (k := 1) rfl (nI_inc _) (by decide) rfl (fun ls hl => ?_)
                            refine lv_goto (tgt := 64) hx hb dX9_lays_151 (by decide) ?_
                            exact ih31 (w + 1) many3 F3 fnd3 M3 H locs ls hs3 hF3 hf3 (BF_skip hB3 hkm3 (fun c9 h9 _ => by rw [ho33] at h9; cases h9; rw [ho36]; exact fun q => by cases q)) hN3 hkm3 (by omega) hM hS (by omega) (lv_sub hl [0, 2, 3, 4, 5, 6] rfl)
                  exact loop31 ((4 - 0) + 1) 0 many F fnd M2 H locs ls hs2 hF hf hB hN (by omega) (by omega) hM hS (by omega) (lv_sub hl [0, 1, 2, 3, 4, 5] rfl)
            exact loop29 ((64 - 0) + 1) 0 1 (fun q => if q = j then some 0 else none) (fun _ => j) (mset (mset M1 38 j 0) 39 0 (nI j)) H locs ls (sc_set rfl (sc_set rfl hs1)) (fun c hc => by rw [mset_n _ _ _ (by decide), mset_s]; unfold upd; split; rfl; exact h2 c (by omega)) (fun i hi => by rw [show i = 0 by omega, mset_s]; simp [upd]) (BF_1 hj (by simp [frX, c_2t, c_3f, c_16f]) rfl) (fun i hi => by unfold fD; simp) (by omega) hM hS (by omega) (lv_sub hl [0, 1, 2, 3, 4] rfl)
      · refine lv_aload_n hx hb dX9_lays_8 rfl (lv_at hl 1 rfl) ?_
        refine mr_get hC hK hM 38 (by decide) fl_X9_89 rfl (v := .ref (ma 38)) rfl dX9_lays_9 ?_
        refine lv_iload_n hx hb dX9_lays_12 rfl (lv_at hl 0 rfl) ?_
        refine lv_iconst (v := (-1)) hx hb dX9_lays_13 (by decide) ?_
        refine mr_ist hC hK hI hM hS 38 (mA_k (by decide)) (i := k) (show k < 64 from by omega) rfl dX9_lays_14 (fun H locs hM hS => ?_)
        refine lv_iinc (v := nI (k + 1)) (lv' := [(3, .int (nI (k + 1))), (0, .ref (ma 0)), (1, .int (nI j)), (2, .int x)]) hx hb dX9_lays_15 hl (k := 0) rfl (nI_inc _) (by decide) rfl (fun ls hl => ?_)
        refine lv_goto (tgt := 2) hx hb dX9_lays_18 (by decide) ?_
        exact ih1 (k + 1) (mset M1 38 k (-1)) H locs ls (by omega) (sc_set rfl hs1) (fun c hc => by rw [mset_s]; unfold upd; split; rfl; exact h2 c (by omega)) hM hS (by omega) (lv_sub hl [0, 1, 2, 3] rfl)
  exact loop1 ((64 - 0) + 1) 0 M0 H locs ls (by omega) hs (fun c h => by omega) hM hS (by omega) (lv_sub hl [0, 1, 2, 3] rfl)
set_option maxHeartbeats 4000000 in
set_option maxRecDepth 100000 in
theorem c9_nearest (l : Launch) (G : gG) (ma : Nat → Nat) (M : MS) (d : Nat → Option Nat) (j : Nat) (hj : j < 64) (hd : ∀ c n, c < 64 → d c = some n → n < 2147483648) : Met l yX9_nearest (wB yX9_nearest cX9_nearest 6 (some .int)) (rmL 2 0 0) (va_Pc [.ref (ma 0), .int (nI j)] (mB G ma M (some d))) (k2_QcV (.int (oI ((nrst d j).map (fun q => q.1))))) 0 0 fN := by
  refine st_N (own := RX9) (by decide +kernel) rfl (Nat.le_of_ble_eq_true rfl) ?_
  intro p e s m below meth c ls args Q hQ hC hr hlk hnm hl hP
  obtain ⟨hM, hK⟩ := hP
  have hx := hC.1
  have hb := hC.2.1
  have hl : lv_has ls 6 [(0, .ref (ma 0)), (1, .int (nI j))] := hl
  refine lv_iconst (v := (-1)) hx hb dX9_nearest_0 (by decide) ?_
  refine lv_istore_n (lv' := [(2, .int (-1)), (0, .ref (ma 0)), (1, .int (nI j))]) hx hb dX9_nearest_1 rfl hl (by decide) rfl (fun ls hl => ?_)
  refine lv_iconst (v := 0) hx hb dX9_nearest_2 (by decide) ?_
  refine lv_istore_n (lv' := [(3, .int 0), (2, .int (-1)), (0, .ref (ma 0)), (1, .int (nI j))]) hx hb dX9_nearest_3 rfl hl (by decide) rfl (fun ls hl => ?_)
  have loop1 : ∀ (n : Nat) (w : Nat) (b : Option (Nat × Nat)) (ls : Array Slot) (hw : w ≤ 4) (hbb : b = bst (nbF d j) w), 4 - w < n → lv_has ls 6 [(3, .int (nI w)), (2, .int (oI (b.map (fun q => q.1)))), (0, .ref (ma 0)), (1, .int (nI j))] → W p l e (rmL 2 0 0) s m args below meth c s.heap [] 0 0 Q (F0 m 4 ls []) := by
    intro n
    induction n with
    | zero => intro w b ls hw hbb hm hl; omega
    | succ n ih1 =>
      intro w b ls hw hbb hm hl
      refine lv_iload_n hx hb dX9_nearest_4 rfl (lv_at hl 0 rfl) ?_
      refine lv_iconst (v := 4) hx hb dX9_nearest_5 (by decide) ?_
      refine ln_ge (tgt := 79) (a := w) (b := 4) hx hb dX9_nearest_6 (by decide) rfl rfl (by omega) (by omega) (fun c_2t => ?_) (fun c_2f => ?_)
      · refine lv_iload_n hx hb dX9_nearest_79 rfl (lv_at hl 1 rfl) ?_
        subst hQ
        exact rt_i hx hb hr hlk (by rw [hbb, show w = 4 by omega]; rfl) dX9_nearest_80
      · rcases hq3 : b with _ | p3
        · have hl : lv_has ls 6 [(3, .int (nI w)), (2, .int (-1)), (0, .ref (ma 0)), (1, .int (nI j))] := by rw [hq3] at hl; exact hl
          refine lv_iload_n hx hb dX9_nearest_9 rfl (lv_at hl 3 rfl) ?_
          refine lv_iload_n hx hb dX9_nearest_10 rfl (lv_at hl 0 rfl) ?_
          refine cl_p (run_S hC (c9_neighbour l j w (by omega) (by omega)) (As := [.int (nI j), .int (nI w)]) (rest := []) rfl rfl ml_X9_120 sm_X9_neighbour ini_X9 cd_X9_neighbour na_X9_neighbour tB_blind (fun _ _ _ => trivial) hl.1 (Nat.le_of_ble_eq_true rfl) ⟨Nat.le_of_ble_eq_true rfl, Nat.le_of_ble_eq_true rfl⟩ ⟨Nat.le_refl _, Nat.le_refl _⟩ rfl dX9_nearest_11) ?_
          rcases ho4 : nbr j w with _ | k4
          · refine top_i (y := -1) rfl ?_
            refine lv_istore (lv' := [(4, .int (-1)), (3, .int (nI w)), (2, .int (-1)), (0, .ref (ma 0)), (1, .int (nI j))]) hx hb dX9_nearest_14 hl (by decide) rfl (fun ls hl => ?_)
            refine lv_iload hx hb dX9_nearest_16 (lv_at hl 0 rfl) ?_
            refine lv_iconst (v := (-1)) hx hb dX9_nearest_18 (by decide) ?_
            refine lv_icmp_eq (tgt := 37) hx hb dX9_nearest_19 (by decide) (fun _ => ?_) (fun c => absurd c (by decide))
            refine lv_iconst (v := 0) hx hb dX9_nearest_37 (by decide) ?_
            refine lv_istore (lv' := [(5, .int 0), (4, .int (-1)), (3, .int (nI w)), (2, .int (-1)), (0, .ref (ma 0)), (1, .int (nI j))]) hx hb dX9_nearest_38 hl (by decide) rfl (fun ls hl => ?_)
            refine lv_iload hx hb dX9_nearest_40 (lv_at hl 0 rfl) ?_
            refine lv_if_eq (tgt := 71) hx hb dX9_nearest_42 (by decide) (fun _ => ?_) (fun c => absurd c (by decide))
            refine lv_iload_n hx hb dX9_nearest_71 rfl (lv_at hl 3 rfl) ?_
            refine lv_istore_n (lv' := [(2, .int (-1)), (5, .int 0), (4, .int (-1)), (3, .int (nI w)), (0, .ref (ma 0)), (1, .int (nI j))]) hx hb dX9_nearest_72 rfl hl (by decide) rfl (fun ls hl => ?_)
            refine lv_iinc (v := nI (w + 1)) (lv' := [(3, .int (nI (w + 1))), (2, .int (-1)), (5, .int 0), (4, .int (-1)), (0, .ref (ma 0)), (1, .int (nI j))]) hx hb dX9_nearest_73 hl (k := 3) rfl (nI_inc _) (by decide) rfl (fun ls hl => ?_)
            refine lv_goto (tgt := 4) hx hb dX9_nearest_76 (by decide) ?_
            exact ih1 (w + 1) none ls (by omega) (hq3.symm.trans (hbb.trans (bst_skip (nbF_n ho4)).symm)) (by omega) (lv_sub hl [0, 1, 4, 5] rfl)
          · refine top_i (y := nI k4) rfl ?_
            have hc64 := nbr_lt _ hj w (by omega) _ ho4
            refine lv_istore (lv' := [(4, .int (nI k4)), (3, .int (nI w)), (2, .int (-1)), (0, .ref (ma 0)), (1, .int (nI j))]) hx hb dX9_nearest_14 hl (by decide) rfl (fun ls hl => ?_)
            refine lv_iload hx hb dX9_nearest_16 (lv_at hl 0 rfl) ?_
            refine lv_iconst (v := (-1)) hx hb dX9_nearest_18 (by decide) ?_
            refine lv_icmp_eq (tgt := 37) hx hb dX9_nearest_19 (by decide) (fun c => absurd c (nI_m1 (by omega))) (fun _ => ?_)
            refine lv_aload_n hx hb dX9_nearest_22 rfl (lv_at hl 3 rfl) ?_
            refine ms_get hC hK hM 38 (by decide) fl_X9_89 rfl (v := .ref (ma 38)) rfl (fun q => by cases q) dX9_nearest_23 ?_
            refine lv_iload hx hb dX9_nearest_26 (lv_at hl 0 rfl) ?_
            refine ms_dld hC hK hM (i := k4) (show k4 < 64 from hc64) (v := oI (d k4)) rfl dX9_nearest_28 ?_
            rcases ho8 : d k4 with _ | k8
            · refine top_i (y := -1) rfl ?_
              refine lv_iconst (v := (-1)) hx hb dX9_nearest_29 (by decide) ?_
              refine lv_icmp_eq (tgt := 37) hx hb dX9_nearest_30 (by decide) (fun _ => ?_) (fun c => absurd c (by decide))
              refine lv_iconst (v := 0) hx hb dX9_nearest_37 (by decide) ?_
              refine lv_istore (lv' := [(5, .int 0), (4, .int (nI k4)), (3, .int (nI w)), (2, .int (-1)), (0, .ref (ma 0)), (1, .int (nI j))]) hx hb dX9_nearest_38 hl (by decide) rfl (fun ls hl => ?_)
              refine lv_iload hx hb dX9_nearest_40 (lv_at hl 0 rfl) ?_
              refine lv_if_eq (tgt := 71) hx hb dX9_nearest_42 (by decide) (fun _ => ?_) (fun c => absurd c (by decide))
              refine lv_iload_n hx hb dX9_nearest_71 rfl (lv_at hl 3 rfl) ?_
              refine lv_istore_n (lv' := [(2, .int (-1)), (5, .int 0), (4, .int (nI k4)), (3, .int (nI w)), (0, .ref (ma 0)), (1, .int (nI j))]) hx hb dX9_nearest_72 rfl hl (by decide) rfl (fun ls hl => ?_)
              refine lv_iinc (v := nI (w + 1)) (lv' := [(3, .int (nI (w + 1))), (2, .int (-1)), (5, .int 0), (4, .int (nI k4)), (0, .ref (ma 0)), (1, .int (nI j))]) hx hb dX9_nearest_73 hl (k := 3) rfl (nI_inc _) (by decide) rfl (fun ls hl => ?_)
              refine lv_goto (tgt := 4) hx hb dX9_nearest_76 (by decide) ?_
              exact ih1 (w + 1) none ls (by omega) (hq3.symm.trans (hbb.trans (bst_skip (nbF_d ho4 ho8)).symm)) (by omega) (lv_sub hl [0, 1, 4, 5] rfl)
            · refine top_i (y := nI k8) rfl ?_
              have hn31 := hd _ _ hc64 ho8
              refine lv_iconst (v := (-1)) hx hb dX9_nearest_29 (by decide) ?_
              refine lv_icmp_eq (tgt := 37) hx hb dX9_nearest_30 (by decide) (fun c => absurd c (nI_m1 (by omega))) (fun _ => ?_)
              refine lv_iconst (v := 1) hx hb dX9_nearest_33 (by decide) ?_
              refine lv_goto (tgt := 38) hx hb dX9_nearest_34 (by decide) ?_
              refine lv_istore (lv' := [(5, .int 1), (4, .int (nI k4)), (3, .int (nI w)), (2, .int (-1)), (0, .ref (ma 0)), (1, .int (nI j))]) hx hb dX9_nearest_38 hl (by decide) rfl (fun ls hl => ?_)
              refine lv_iload hx hb dX9_nearest_40 (lv_at hl 0 rfl) ?_
              refine lv_if_eq (tgt := 71) hx hb dX9_nearest_42 (by decide) (fun c => absurd c (by decide)) (fun _ => ?_)
              refine lv_iload_n hx hb dX9_nearest_45 rfl (lv_at hl 3 rfl) ?_
              refine lv_iconst (v := (-1)) hx hb dX9_nearest_46 (by decide) ?_
              refine lv_icmp_eq (tgt := 66) hx hb dX9_nearest_47 (by decide) (fun _ => ?_) (fun c => absurd c (by decide))
              refine lv_iload hx hb dX9_nearest_66 (lv_at hl 1 rfl) ?_
              refine lv_goto (tgt := 72) hx hb dX9_nearest_68 (by decide) ?_
              refine lv_istore_n (lv' := [(2, .int (nI k4)), (5, .int 1), (4, .int (nI k4)), (3, .int (nI w)), (0, .ref (ma 0)), (1, .int (nI j))]) hx hb dX9_nearest_72 rfl hl (by decide) rfl (fun ls hl => ?_)
              refine lv_iinc (v := nI (w + 1)) (lv' := [(3, .int (nI (w + 1))), (2, .int (nI k4)), (5, .int 1), (4, .int (nI k4)), (0, .ref (ma 0)), (1, .int (nI j))]) hx hb dX9_nearest_73 hl (k := 3) rfl (nI_inc _) (by decide) rfl (fun ls hl => ?_)
              refine lv_goto (tgt := 4) hx hb dX9_nearest_76 (by decide) ?_
              exact ih1 (w + 1) (some (k4, k8)) ls (by omega) ((bst_new (nbF_s ho4 ho8) (hbb.symm.trans hq3)).symm) (by omega) (lv_sub hl [0, 1, 4, 5] rfl)
        · have hl : lv_has ls 6 [(3, .int (nI w)), (2, .int (nI p3.1)), (0, .ref (ma 0)), (1, .int (nI j))] := by rw [hq3] at hl; exact hl
          have hp0 := bst_nb hj hw (hbb.symm.trans hq3)
          have hp31 := hd _ _ hp0.1 hp0.2
          have hp64 := hp0.1
          refine lv_iload_n hx hb dX9_nearest_9 rfl (lv_at hl 3 rfl) ?_
          refine lv_iload_n hx hb dX9_nearest_10 rfl (lv_at hl 0 rfl) ?_
          refine cl_p (run_S hC (c9_neighbour l j w (by omega) (by omega)) (As := [.int (nI j), .int (nI w)]) (rest := []) rfl rfl ml_X9_120 sm_X9_neighbour ini_X9 cd_X9_neighbour na_X9_neighbour tB_blind (fun _ _ _ => trivial) hl.1 (Nat.le_of_ble_eq_true rfl) ⟨Nat.le_of_ble_eq_true rfl, Nat.le_of_ble_eq_true rfl⟩ ⟨Nat.le_refl _, Nat.le_refl _⟩ rfl dX9_nearest_11) ?_
          rcases ho14 : nbr j w with _ | k14
          · refine top_i (y := -1) rfl ?_
            refine lv_istore (lv' := [(4, .int (-1)), (3, .int (nI w)), (2, .int (nI p3.1)), (0, .ref (ma 0)), (1, .int (nI j))]) hx hb dX9_nearest_14 hl (by decide) rfl (fun ls hl => ?_)
            refine lv_iload hx hb dX9_nearest_16 (lv_at hl 0 rfl) ?_
            refine lv_iconst (v := (-1)) hx hb dX9_nearest_18 (by decide) ?_
            refine lv_icmp_eq (tgt := 37) hx hb dX9_nearest_19 (by decide) (fun _ => ?_) (fun c => absurd c (by decide))
            refine lv_iconst (v := 0) hx hb dX9_nearest_37 (by decide) ?_
            refine lv_istore (lv' := [(5, .int 0), (4, .int (-1)), (3, .int (nI w)), (2, .int (nI p3.1)), (0, .ref (ma 0)), (1, .int (nI j))]) hx hb dX9_nearest_38 hl (by decide) rfl (fun ls hl => ?_)
            refine lv_iload hx hb dX9_nearest_40 (lv_at hl 0 rfl) ?_
            refine lv_if_eq (tgt := 71) hx hb dX9_nearest_42 (by decide) (fun _ => ?_) (fun c => absurd c (by decide))
            refine lv_iload_n hx hb dX9_nearest_71 rfl (lv_at hl 3 rfl) ?_
            refine lv_istore_n (lv' := [(2, .int (nI p3.1)), (5, .int 0), (4, .int (-1)), (3, .int (nI w)), (0, .ref (ma 0)), (1, .int (nI j))]) hx hb dX9_nearest_72 rfl hl (by decide) rfl (fun ls hl => ?_)
            refine lv_iinc (v := nI (w + 1)) (lv' := [(3, .int (nI (w + 1))), (2, .int (nI p3.1)), (5, .int 0), (4, .int (-1)), (0, .ref (ma 0)), (1, .int (nI j))]) hx hb dX9_nearest_73 hl (k := 3) rfl (nI_inc _) (by decide) rfl (fun ls hl => ?_)
            refine lv_goto (tgt := 4) hx hb dX9_nearest_76 (by decide) ?_
            exact ih1 (w + 1) (some p3) ls (by omega) (hq3.symm.trans (hbb.trans (bst_skip (nbF_n ho14)).symm)) (by omega) (lv_sub hl [0, 1, 4, 5] rfl)
          · refine top_i (y := nI k14) rfl ?_
            have hc64 := nbr_lt _ hj w (by omega) _ ho14
            refine lv_istore (lv' := [(4, .int (nI k14)), (3, .int (nI w)), (2, .int (nI p3.1)), (0, .ref (ma 0)), (1, .int (nI j))]) hx hb dX9_nearest_14 hl (by decide) rfl (fun ls hl => ?_)
            refine lv_iload hx hb dX9_nearest_16 (lv_at hl 0 rfl) ?_
            refine lv_iconst (v := (-1)) hx hb dX9_nearest_18 (by decide) ?_
            refine lv_icmp_eq (tgt := 37) hx hb dX9_nearest_19 (by decide) (fun c => absurd c (nI_m1 (by omega))) (fun _ => ?_)
            refine lv_aload_n hx hb dX9_nearest_22 rfl (lv_at hl 3 rfl) ?_
            refine ms_get hC hK hM 38 (by decide) fl_X9_89 rfl (v := .ref (ma 38)) rfl (fun q => by cases q) dX9_nearest_23 ?_
            refine lv_iload hx hb dX9_nearest_26 (lv_at hl 0 rfl) ?_
            refine ms_dld hC hK hM (i := k14) (show k14 < 64 from hc64) (v := oI (d k14)) rfl dX9_nearest_28 ?_
            rcases ho18 : d k14 with _ | k18
            · refine top_i (y := -1) rfl ?_
              refine lv_iconst (v := (-1)) hx hb dX9_nearest_29 (by decide) ?_
              refine lv_icmp_eq (tgt := 37) hx hb dX9_nearest_30 (by decide) (fun _ => ?_) (fun c => absurd c (by decide))
              refine lv_iconst (v := 0) hx hb dX9_nearest_37 (by decide) ?_
              refine lv_istore (lv' := [(5, .int 0), (4, .int (nI k14)), (3, .int (nI w)), (2, .int (nI p3.1)), (0, .ref (ma 0)), (1, .int (nI j))]) hx hb dX9_nearest_38 hl (by decide) rfl (fun ls hl => ?_)
              refine lv_iload hx hb dX9_nearest_40 (lv_at hl 0 rfl) ?_
              refine lv_if_eq (tgt := 71) hx hb dX9_nearest_42 (by decide) (fun _ => ?_) (fun c => absurd c (by decide))
              refine lv_iload_n hx hb dX9_nearest_71 rfl (lv_at hl 3 rfl) ?_
              refine lv_istore_n (lv' := [(2, .int (nI p3.1)), (5, .int 0), (4, .int (nI k14)), (3, .int (nI w)), (0, .ref (ma 0)), (1, .int (nI j))]) hx hb dX9_nearest_72 rfl hl (by decide) rfl (fun ls hl => ?_)
              refine lv_iinc (v := nI (w + 1)) (lv' := [(3, .int (nI (w + 1))), (2, .int (nI p3.1)), (5, .int 0), (4, .int (nI k14)), (0, .ref (ma 0)), (1, .int (nI j))]) hx hb dX9_nearest_73 hl (k := 3) rfl (nI_inc _) (by decide) rfl (fun ls hl => ?_)
              refine lv_goto (tgt := 4) hx hb dX9_nearest_76 (by decide) ?_
              exact ih1 (w + 1) (some p3) ls (by omega) (hq3.symm.trans (hbb.trans (bst_skip (nbF_d ho14 ho18)).symm)) (by omega) (lv_sub hl [0, 1, 4, 5] rfl)
            · refine top_i (y := nI k18) rfl ?_
              have hn31 := hd _ _ hc64 ho18
              refine lv_iconst (v := (-1)) hx hb dX9_nearest_29 (by decide) ?_
              refine lv_icmp_eq (tgt := 37) hx hb dX9_nearest_30 (by decide) (fun c => absurd c (nI_m1 (by omega))) (fun _ => ?_)
              refine lv_iconst (v := 1) hx hb dX9_nearest_33 (by decide) ?_
              refine lv_goto (tgt := 38) hx hb dX9_nearest_34 (by decide) ?_
              refine lv_istore (lv' := [(5, .int 1), (4, .int (nI k14)), (3, .int (nI w)), (2, .int (nI p3.1)), (0, .ref (ma 0)), (1, .int (nI j))]) hx hb dX9_nearest_38 hl (by decide) rfl (fun ls hl => ?_)
              refine lv_iload hx hb dX9_nearest_40 (lv_at hl 0 rfl) ?_
              refine lv_if_eq (tgt := 71) hx hb dX9_nearest_42 (by decide) (fun c => absurd c (by decide)) (fun _ => ?_)
              refine lv_iload_n hx hb dX9_nearest_45 rfl (lv_at hl 3 rfl) ?_
              refine lv_iconst (v := (-1)) hx hb dX9_nearest_46 (by decide) ?_
              refine lv_icmp_eq (tgt := 66) hx hb dX9_nearest_47 (by decide) (fun c => absurd c (nI_m1 (by omega))) (fun _ => ?_)
              refine lv_aload_n hx hb dX9_nearest_50 rfl (lv_at hl 4 rfl) ?_
              refine ms_get hC hK hM 38 (by decide) fl_X9_89 rfl (v := .ref (ma 38)) rfl (fun q => by cases q) dX9_nearest_51 ?_
              refine lv_iload hx hb dX9_nearest_54 (lv_at hl 1 rfl) ?_
              refine ms_dld hC hK hM (i := k14) (show k14 < 64 from hc64) (v := nI k18) (by rw [ho18]; rfl) dX9_nearest_56 ?_
              refine lv_aload_n hx hb dX9_nearest_57 rfl (lv_at hl 4 rfl) ?_
              refine ms_get hC hK hM 38 (by decide) fl_X9_89 rfl (v := .ref (ma 38)) rfl (fun q => by cases q) dX9_nearest_58 ?_
              refine lv_iload_n hx hb dX9_nearest_61 rfl (lv_at hl 3 rfl) ?_
              refine ms_dld hC hK hM (i := p3.1) (show p3.1 < 64 from hp0.1) (v := nI p3.2) (by rw [hp0.2]; rfl) dX9_nearest_62 ?_
              refine ln_ge (tgt := 71) (a := k18) (b := p3.2) hx hb dX9_nearest_63 (by decide) rfl rfl (by omega) (by omega) (fun c_24t => ?_) (fun c_24f => ?_)
              · refine lv_iload_n hx hb dX9_nearest_71 rfl (lv_at hl 3 rfl) ?_
                refine lv_istore_n (lv' := [(2, .int (nI p3.1)), (5, .int 1), (4, .int (nI k14)), (3, .int (nI w)), (0, .ref (ma 0)), (1, .int (nI j))]) hx hb dX9_nearest_72 rfl hl (by decide) rfl (fun ls hl => ?_)
                refine lv_iinc (v := nI (w + 1)) (lv' := [(3, .int (nI (w + 1))), (2, .int (nI p3.1)), (5, .int 1), (4, .int (nI k14)), (0, .ref (ma 0)), (1, .int (nI j))]) hx hb dX9_nearest_73 hl (k := 3) rfl (nI_inc _) (by decide) rfl (fun ls hl => ?_)
                refine lv_goto (tgt := 4) hx hb dX9_nearest_76 (by decide) ?_
                exact ih1 (w + 1) (some p3) ls (by omega) ((bst_ge (nbF_s ho14 ho18) (hbb.symm.trans hq3) (show ¬ k18 < p3.2 by omega)).symm) (by omega) (lv_sub hl [0, 1, 4, 5] rfl)
              · refine lv_iload hx hb dX9_nearest_66 (lv_at hl 1 rfl) ?_
                refine lv_goto (tgt := 72) hx hb dX9_nearest_68 (by decide) ?_
                refine lv_istore_n (lv' := [(2, .int (nI k14)), (5, .int 1), (4, .int (nI k14)), (3, .int (nI w)), (0, .ref (ma 0)), (1, .int (nI j))]) hx hb dX9_nearest_72 rfl hl (by decide) rfl (fun ls hl => ?_)
                refine lv_iinc (v := nI (w + 1)) (lv' := [(3, .int (nI (w + 1))), (2, .int (nI k14)), (5, .int 1), (4, .int (nI k14)), (0, .ref (ma 0)), (1, .int (nI j))]) hx hb dX9_nearest_73 hl (k := 3) rfl (nI_inc _) (by decide) rfl (fun ls hl => ?_)
                refine lv_goto (tgt := 4) hx hb dX9_nearest_76 (by decide) ?_
                exact ih1 (w + 1) (some (k14, k18)) ls (by omega) ((bst_lt (nbF_s ho14 ho18) (hbb.symm.trans hq3) (show k18 < p3.2 by omega)).symm) (by omega) (lv_sub hl [0, 1, 4, 5] rfl)
  exact loop1 ((4 - 0) + 1) 0 none ls (by omega) rfl (by omega) (lv_sub hl [0, 1, 2, 3] rfl)
set_option maxHeartbeats 4000000 in
set_option maxRecDepth 100000 in
theorem c9_distanceOf (l : Launch) (G : gG) (ma : Nat → Nat) (M : MS) (D : mD) (f : Nat) (t : Nat) (hI : mI ma) (hcnt : CNT M) (hf : f < 64) (ht : t < 64) : Met l yX9_distanceOf (wB yX9_distanceOf cX9_distanceOf 4 (some .int)) (rmL 3 0 0) (va_Pc [.ref (ma 0), .int (nI f), .int (nI t)] (mB G ma M D)) (mQi G ma none (fun r M' => r = oI (dGM M f t) ∧ M' = M)) 0 0 (mA ma) := by
  refine st_N (own := RX9) (by decide +kernel) rfl (Nat.le_of_ble_eq_true rfl) ?_
  intro p e s m below meth c ls args Q hQ hC hr hlk hnm hl hP
  obtain ⟨hM, hK⟩ := hP
  have hx := hC.1
  have hb := hC.2.1
  have hl : lv_has ls 4 [(0, .ref (ma 0)), (1, .int (nI f)), (2, .int (nI t))] := hl
  have hS : va_S (mA ma) s.heap s.heap [] := va_S.rf
  obtain ⟨H, locs, hHe, hLe⟩ : ∃ (H : Heap) (locs : List Loc), H = s.heap ∧ locs = [] := ⟨_, _, rfl, rfl⟩
  rw [← hHe] at hM
  have hS : va_S (mA ma) s.heap H locs := by rw [hHe, hLe]; exact va_S.rf
  suffices hgo : W p l e (rmL 3 0 0) s m args below meth c H locs 0 0 Q (F0 m 0 ls []) by
    rw [hHe, hLe] at hgo
    exact hgo
  clear hHe hLe
  have hd1 : ∀ c n, c < 64 → dS (frX M (-1)) t c = some n → n < 2147483648 := fun c n hc h => by have := dS_64 ht hc h; omega
  refine lv_iload_n hx hb dX9_distanceOf_0 rfl (lv_at hl 1 rfl) ?_
  refine lv_iload_n hx hb dX9_distanceOf_1 rfl (lv_at hl 2 rfl) ?_
  refine ln_ne (tgt := 7) (a := f) (b := t) hx hb dX9_distanceOf_2 (by decide) rfl rfl (by omega) (by omega) (fun c_1t => ?_) (fun c_1f => ?_)
  · refine lv_aload_n hx hb dX9_distanceOf_7 rfl (lv_at hl 0 rfl) ?_
    refine lv_iload_n hx hb dX9_distanceOf_8 rfl (lv_at hl 2 rfl) ?_
    refine lv_iconst (v := (-1)) hx hb dX9_distanceOf_9 (by decide) ?_
    refine mcl_v (run_V hC (c9_lays l G ma M D t (-1) hI hcnt (by omega)) (As := [.int (nI t), .int (-1)]) (rest := []) rfl rfl ml_X9_124 im_X9_lays se_X9_lays ini_X9 cd_X9_lays ⟨rfl, na_X9_lays⟩ mB_blind (mr_recv hK hM) (mr_B hK hM) hl.1 (Nat.le_of_ble_eq_true rfl) ⟨Nat.le_of_ble_eq_true rfl, Nat.le_of_ble_eq_true rfl⟩ ⟨Nat.le_refl _, Nat.le_refl _⟩ rfl dX9_distanceOf_10) hS (fun _ h => h) (fun M2 H locs hp2 hM hS => ?_)
    rw [hp2] at hM
    refine lv_aload_n hx hb dX9_distanceOf_13 rfl (lv_at hl 0 rfl) ?_
    refine lv_iload_n hx hb dX9_distanceOf_14 rfl (lv_at hl 1 rfl) ?_
    refine cl_p (run_V hC (c9_nearest l G ma M (dS (frX M (-1)) t) f (by omega) hd1) (As := [.int (nI f)]) (rest := []) rfl rfl ml_X9_128 im_X9_nearest se_X9_nearest ini_X9 cd_X9_nearest ⟨rfl, na_X9_nearest⟩ mB_blind (mr_recv hK hM) (mr_B hK hM) hl.1 (Nat.le_of_ble_eq_true rfl) ⟨Nat.le_of_ble_eq_true rfl, Nat.le_of_ble_eq_true rfl⟩ ⟨Nat.le_refl _, Nat.le_refl _⟩ rfl dX9_distanceOf_15) ?_
    rcases ho3 : nrst (dS (frX M (-1)) t) f with _ | k3
    · refine top_i (y := -1) rfl ?_
      refine lv_istore_n (lv' := [(3, .int (-1)), (0, .ref (ma 0)), (1, .int (nI f)), (2, .int (nI t))]) hx hb dX9_distanceOf_18 rfl hl (by decide) rfl (fun ls hl => ?_)
      refine lv_iload_n hx hb dX9_distanceOf_19 rfl (lv_at hl 0 rfl) ?_
      refine lv_iconst (v := (-1)) hx hb dX9_distanceOf_20 (by decide) ?_
      refine lv_icmp_ne (tgt := 28) hx hb dX9_distanceOf_21 (by decide) (fun c => absurd c (by decide)) (fun _ => ?_)
      refine lv_iconst (v := (-1)) hx hb dX9_distanceOf_24 (by decide) ?_
      refine lv_goto (tgt := 36) hx hb dX9_distanceOf_25 (by decide) ?_
      subst hQ
      exact rt_mi hx hb hr hlk hM.none hS  (⟨by rw [dGM, if_neg c_1t, ho3]; rfl, rfl⟩) dX9_distanceOf_36
    · refine top_i (y := nI k3.1) rfl ?_
      have hq64 := bst_nb hf (Nat.le_refl 4) ho3
      have hq31 := hd1 _ _ hq64.1 hq64.2
      have hq640 := hq64.1
      refine lv_istore_n (lv' := [(3, .int (nI k3.1)), (0, .ref (ma 0)), (1, .int (nI f)), (2, .int (nI t))]) hx hb dX9_distanceOf_18 rfl hl (by decide) rfl (fun ls hl => ?_)
      refine lv_iload_n hx hb dX9_distanceOf_19 rfl (lv_at hl 0 rfl) ?_
      refine lv_iconst (v := (-1)) hx hb dX9_distanceOf_20 (by decide) ?_
      refine lv_icmp_ne (tgt := 28) hx hb dX9_distanceOf_21 (by decide) (fun _ => ?_) (fun c => absurd c (nI_m1 (by omega)))
      refine lv_aload_n hx hb dX9_distanceOf_28 rfl (lv_at hl 1 rfl) ?_
      refine ms_get hC hK hM 38 (by decide) fl_X9_89 rfl (v := .ref (ma 38)) rfl (fun q => by cases q) dX9_distanceOf_29 ?_
      refine lv_iload_n hx hb dX9_distanceOf_32 rfl (lv_at hl 0 rfl) ?_
      refine ms_dld hC hK hM (i := k3.1) (show k3.1 < 64 from hq64.1) (v := nI k3.2) (by rw [hq64.2]; rfl) dX9_distanceOf_33 ?_
      refine lv_iconst (v := 1) hx hb dX9_distanceOf_34 (by decide) ?_
      refine lv_iadd hx hb dX9_distanceOf_35 ?_
      refine top_i (y := nI (k3.2 + 1)) (nI_add k3.2 1) ?_
      subst hQ
      exact rt_mi hx hb hr hlk hM.none hS  (⟨by rw [dGM, if_neg c_1t, ho3]; rfl, rfl⟩) dX9_distanceOf_36
  · refine lv_iconst (v := 0) hx hb dX9_distanceOf_5 (by decide) ?_
    subst hQ
    exact rt_mi hx hb hr hlk hM.none hS  (⟨by rw [dGM, if_pos c_1f]; rfl, rfl⟩) dX9_distanceOf_6
