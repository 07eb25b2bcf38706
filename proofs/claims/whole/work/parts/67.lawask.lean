/-! WRAPPERS THAT ASK -/
set_option maxHeartbeats 4000000 in
set_option maxRecDepth 100000 in
theorem lL_amount (l : Launch) (G : gG) (d0 mi : Nat) (Rf : Nat → Prop) (ja : Nat → Nat → Nat) (M : MS) (E : ES) (oa : Nat) (v : Int64) (x : Int32) (B : Nat) (hI : INV B M) (hCE : CE M E) (hRo : Rf oa) (hl9 : l.stackTraces = false) : Met l yL_amount (Cond.codeWith yL_amount cL_amount 4 (some .int) [(0, 9, 12, 36)] :: BIG) (rmL 8 1 6) (va_Pc [.ref (ja 8 0), .int x, .ref oa] (lJ G d0 mi Rf ja M E oa v)) (va_Qi (S := Int64) (fun r u => r = tT M x ∧ (tT M x = 0 → u = (amtR M x).toInt64)) (fun u t => WJ G d0 Rf ja M E t.heap ∧ oC G oa u t.heap) (lA Rf oa)) 1 6 (lA Rf oa) := by
  refine st_H (own := RL) (by decide +kernel) rfl (Nat.le_of_ble_eq_true rfl) ?_
  intro p e s m below meth c ls args Q hQ hC hr hlk htab hl hP
  obtain ⟨⟨⟨hW, hX, hRf⟩, hT9⟩, hO, hN⟩ := hP
  have hK := hX.1
  have hx := hC.1
  have hb := hC.2.1
  have hl : lv_has ls 4 [(0, .ref (ja 8 0)), (1, .int x), (2, .ref oa)] := hl
  have h16 := hW.cnt.T16
  have h6 := hW.cnt.R6
  have h10 := hW.cnt.O10
  have h15 : nP M ≤ 1500 := Nat.le_trans (Nat.le_add_right _ _) hI.p.2.1
  refine lv_aload_n hx hb dL_amount_0 rfl (lv_at hl 2 rfl) ?_
  refine lv_iconst (v := 0) hx hb dL_amount_1 (by decide) ?_
  refine lv_aload_n hx hb dL_amount_2 rfl (lv_at hl 0 rfl) ?_
  refine lv_iload_n hx hb dL_amount_3 rfl (lv_at hl 1 rfl) ?_
  by_cases h : inB x (nI (nT M)) = true
  · have hT : tT M x = 0 := if_pos h
    obtain ⟨j, hj, rfl⟩ := inB_of (n := nT M) (by omega) h
    refine cl_pi (x := M 9 j) (run_V hC (cJ_X8_amount l G d0 mi Rf ja M E j hj) (As := [.int (nI j)]) (rest := [.int 0, .ref oa]) rfl rfl ml_L_57 im_X8_amount se_X8_amount ini_X8 cd_X8_amount ⟨rfl, na_X8_amount⟩ jB_blind (hW.recv hK (show jV M 8 0 from rfl) rfl) (jB_at hX hRf hW va_S.rf) hl.1 (Nat.le_of_ble_eq_true rfl) ⟨Nat.le_of_ble_eq_true rfl, Nat.le_of_ble_eq_true rfl⟩ ⟨by show 0 + 0 ≤ 1; omega, by show 0 + 0 ≤ 6; omega⟩ rfl dL_amount_4) rfl ?_
    refine lv_i2l hx hb dL_amount_7 rfl ?_
    refine r2_lst hC hK (A := lA Rf oa) hO va_S.rf (Or.inr rfl) dL_amount_8 (fun H locs hO hz hoq hS => ?_)
    have hW := hW.kept (H1 := H) (fun q hq hnR => hoq q (fun e9 => hnR (by rw [e9]; exact hRo)))
    refine lv_goto (tgt := 15) hx hb dL_amount_9 (by decide) ?_
    refine lv_iconst (v := 0) hx hb dL_amount_15 (by decide) ?_
    subst hQ
    exact rt_qi ((M 9 j).toInt64) hx hb hr hlk hS ⟨hT.symm, fun _ => congrArg Int32.toInt64 (by unfold amtR; rw [if_pos hT, ix_nI (by omega)])⟩ (fun t9 ht9 _ => by show WJ G d0 Rf _ _ _ t9.heap ∧ oC G oa _ t9.heap; rw [ht9]; exact ⟨hW, hO⟩) (by show 0 ≤ 1; omega) (by show 0 ≤ 6; omega) dL_amount_16
  · have hT : tT M x = 1 := if_neg h
    have hno : inB x (nI (nT M)) = false := by simpa using h
    refine jl_catch (A0 := lA Rf oa) (run_VX hC (cJ_X8_amountX l G d0 mi Rf ja M E x hno hl9) (As := [.int x]) (rest := [.int 0, .ref oa]) rfl rfl ml_L_57 im_X8_amount se_X8_amount ini_X8 cd_X8_amount ⟨rfl, na_X8_amount⟩ jT_blind (hW.recv hK (show jV M 8 0 from rfl) rfl) (jT_at hX hT9 hRf hW va_S.rf) hl.1 (Nat.le_of_ble_eq_true rfl) ⟨Nat.le_of_ble_eq_true rfl, Nat.le_of_ble_eq_true rfl⟩ ⟨by show 0 + 1 ≤ 1; omega, by show 0 + 6 ≤ 6; omega⟩ rfl dL_amount_4) va_S.rf (fun q h => Or.inl h) hC.2.2.2.1 [] ⟨0, 9, 12, 36⟩ [] htab (fun z hz => nomatch hz) (by decide) (by decide) (hC.2.2.2.2 _ cl_L_36) (va_Nw.use rfl (hT9.2.1 (xIOE, xIOE) (by decide))) (fun q H locs hz hk hS => ?_)
    have hW := hW.kept (H1 := H) (fun q hq _ => hk q hq)
    have hO : oC G oa v H := va_at.kept hO (hk _ (va_at.lt hO))
    refine lv_astore_n (lv' := [(3, .ref q), (0, .ref (ja 8 0)), (1, .int x), (2, .ref oa)]) hx hb dL_amount_12 rfl hl (by decide) rfl (fun ls hl => ?_)
    refine lv_iconst (v := 1) hx hb dL_amount_13 (by decide) ?_
    subst hQ
    exact rt_qi v hx hb hr hlk hS ⟨hT.symm, fun z => by rw [hT] at z; exact absurd z (by decide)⟩ (fun t9 ht9 _ => by show WJ G d0 Rf _ _ _ t9.heap ∧ oC G oa _ t9.heap; rw [ht9]; exact ⟨hW, hO⟩) (by show 0 + 1 ≤ 1; omega) (by show 0 + 6 ≤ 6; omega) dL_amount_14
set_option maxHeartbeats 4000000 in
set_option maxRecDepth 100000 in
theorem lL_trayCell (l : Launch) (G : gG) (d0 mi : Nat) (Rf : Nat → Prop) (ja : Nat → Nat → Nat) (M : MS) (E : ES) (oa : Nat) (v : Int64) (x : Int32) (B : Nat) (hI : INV B M) (hCE : CE M E) (hRo : Rf oa) (hl9 : l.stackTraces = false) : Met l yL_trayCell (Cond.codeWith yL_trayCell cL_trayCell 4 (some .int) [(0, 9, 12, 36)] :: BIG) (rmL 8 1 6) (va_Pc [.ref (ja 8 0), .int x, .ref oa] (lJ G d0 mi Rf ja M E oa v)) (va_Qi (S := Int64) (fun r u => r = tT M x ∧ (tT M x = 0 → u = (tcR M x).toInt64)) (fun u t => WJ G d0 Rf ja M E t.heap ∧ oC G oa u t.heap) (lA Rf oa)) 1 6 (lA Rf oa) := by
  refine st_H (own := RL) (by decide +kernel) rfl (Nat.le_of_ble_eq_true rfl) ?_
  intro p e s m below meth c ls args Q hQ hC hr hlk htab hl hP
  obtain ⟨⟨⟨hW, hX, hRf⟩, hT9⟩, hO, hN⟩ := hP
  have hK := hX.1
  have hx := hC.1
  have hb := hC.2.1
  have hl : lv_has ls 4 [(0, .ref (ja 8 0)), (1, .int x), (2, .ref oa)] := hl
  have h16 := hW.cnt.T16
  have h6 := hW.cnt.R6
  have h10 := hW.cnt.O10
  have h15 : nP M ≤ 1500 := Nat.le_trans (Nat.le_add_right _ _) hI.p.2.1
  refine lv_aload_n hx hb dL_trayCell_0 rfl (lv_at hl 2 rfl) ?_
  refine lv_iconst (v := 0) hx hb dL_trayCell_1 (by decide) ?_
  refine lv_aload_n hx hb dL_trayCell_2 rfl (lv_at hl 0 rfl) ?_
  refine lv_iload_n hx hb dL_trayCell_3 rfl (lv_at hl 1 rfl) ?_
  by_cases h : inB x (nI (nT M)) = true
  · have hT : tT M x = 0 := if_pos h
    obtain ⟨j, hj, rfl⟩ := inB_of (n := nT M) (by omega) h
    refine cl_pi (x := tcC M j) (run_V hC (cJ_X8_trayCell l G d0 mi Rf ja M E j hj hI.u21) (As := [.int (nI j)]) (rest := [.int 0, .ref oa]) rfl rfl ml_L_60 im_X8_trayCell se_X8_trayCell ini_X8 cd_X8_trayCell ⟨rfl, na_X8_trayCell⟩ jB_blind (hW.recv hK (show jV M 8 0 from rfl) rfl) (jB_at hX hRf hW va_S.rf) hl.1 (Nat.le_of_ble_eq_true rfl) ⟨Nat.le_of_ble_eq_true rfl, Nat.le_of_ble_eq_true rfl⟩ ⟨by show 0 + 0 ≤ 1; omega, by show 0 + 0 ≤ 6; omega⟩ rfl dL_trayCell_4) rfl ?_
    refine lv_i2l hx hb dL_trayCell_7 rfl ?_
    refine r2_lst hC hK (A := lA Rf oa) hO va_S.rf (Or.inr rfl) dL_trayCell_8 (fun H locs hO hz hoq hS => ?_)
    have hW := hW.kept (H1 := H) (fun q hq hnR => hoq q (fun e9 => hnR (by rw [e9]; exact hRo)))
    refine lv_goto (tgt := 15) hx hb dL_trayCell_9 (by decide) ?_
    refine lv_iconst (v := 0) hx hb dL_trayCell_15 (by decide) ?_
    subst hQ
    exact rt_qi ((tcC M j).toInt64) hx hb hr hlk hS ⟨hT.symm, fun _ => congrArg Int32.toInt64 ((tc_lk hI.u21 (by omega) hT).symm)⟩ (fun t9 ht9 _ => by show WJ G d0 Rf _ _ _ t9.heap ∧ oC G oa _ t9.heap; rw [ht9]; exact ⟨hW, hO⟩) (by show 0 ≤ 1; omega) (by show 0 ≤ 6; omega) dL_trayCell_16
  · have hT : tT M x = 1 := if_neg h
    have hno : inB x (nI (nT M)) = false := by simpa using h
    refine jl_catch (A0 := lA Rf oa) (run_VX hC (cJ_X8_trayCellX l G d0 mi Rf ja M E x hno hl9) (As := [.int x]) (rest := [.int 0, .ref oa]) rfl rfl ml_L_60 im_X8_trayCell se_X8_trayCell ini_X8 cd_X8_trayCell ⟨rfl, na_X8_trayCell⟩ jT_blind (hW.recv hK (show jV M 8 0 from rfl) rfl) (jT_at hX hT9 hRf hW va_S.rf) hl.1 (Nat.le_of_ble_eq_true rfl) ⟨Nat.le_of_ble_eq_true rfl, Nat.le_of_ble_eq_true rfl⟩ ⟨by show 0 + 1 ≤ 1; omega, by show 0 + 6 ≤ 6; omega⟩ rfl dL_trayCell_4) va_S.rf (fun q h => Or.inl h) hC.2.2.2.1 [] ⟨0, 9, 12, 36⟩ [] htab (fun z hz => nomatch hz) (by decide) (by decide) (hC.2.2.2.2 _ cl_L_36) (va_Nw.use rfl (hT9.2.1 (xIOE, xIOE) (by decide))) (fun q H locs hz hk hS => ?_)
    have hW := hW.kept (H1 := H) (fun q hq _ => hk q hq)
    have hO : oC G oa v H := va_at.kept hO (hk _ (va_at.lt hO))
    refine lv_astore_n (lv' := [(3, .ref q), (0, .ref (ja 8 0)), (1, .int x), (2, .ref oa)]) hx hb dL_trayCell_12 rfl hl (by decide) rfl (fun ls hl => ?_)
    refine lv_iconst (v := 1) hx hb dL_trayCell_13 (by decide) ?_
    subst hQ
    exact rt_qi v hx hb hr hlk hS ⟨hT.symm, fun z => by rw [hT] at z; exact absurd z (by decide)⟩ (fun t9 ht9 _ => by show WJ G d0 Rf _ _ _ t9.heap ∧ oC G oa _ t9.heap; rw [ht9]; exact ⟨hW, hO⟩) (by show 0 + 1 ≤ 1; omega) (by show 0 + 6 ≤ 6; omega) dL_trayCell_14
set_option maxHeartbeats 4000000 in
set_option maxRecDepth 100000 in
theorem lL_robotIn (l : Launch) (G : gG) (d0 mi : Nat) (Rf : Nat → Prop) (ja : Nat → Nat → Nat) (M : MS) (E : ES) (oa : Nat) (v : Int64) (x : Int32) (B : Nat) (hI : INV B M) (hCE : CE M E) (hRo : Rf oa) (hl9 : l.stackTraces = false) : Met l yL_robotIn (Cond.codeWith yL_robotIn cL_robotIn 4 (some .int) [(0, 9, 12, 13)] :: BIG) (rmL 8 1 6) (va_Pc [.ref (ja 8 0), .int x, .ref oa] (lJ G d0 mi Rf ja M E oa v)) (va_Qi (S := Int64) (fun r u => r = cellT x ∧ (cellT x = 0 → u = (rinR M x).toInt64)) (fun u t => WJ G d0 Rf ja M E t.heap ∧ oC G oa u t.heap) (lA Rf oa)) 1 6 (lA Rf oa) := by
  refine st_H (own := RL) (by decide +kernel) rfl (Nat.le_of_ble_eq_true rfl) ?_
  intro p e s m below meth c ls args Q hQ hC hr hlk htab hl hP
  obtain ⟨⟨⟨hW, hX, hRf⟩, hT9⟩, hO, hN⟩ := hP
  have hK := hX.1
  have hx := hC.1
  have hb := hC.2.1
  have hl : lv_has ls 4 [(0, .ref (ja 8 0)), (1, .int x), (2, .ref oa)] := hl
  have h16 := hW.cnt.T16
  have h6 := hW.cnt.R6
  have h10 := hW.cnt.O10
  have h15 : nP M ≤ 1500 := Nat.le_trans (Nat.le_add_right _ _) hI.p.2.1
  refine lv_aload_n hx hb dL_robotIn_0 rfl (lv_at hl 2 rfl) ?_
  refine lv_iconst (v := 0) hx hb dL_robotIn_1 (by decide) ?_
  refine lv_aload_n hx hb dL_robotIn_2 rfl (lv_at hl 0 rfl) ?_
  refine lv_iload_n hx hb dL_robotIn_3 rfl (lv_at hl 1 rfl) ?_
  by_cases h : inB x 64 = true
  · have hT : cellT x = 0 := if_pos h
    obtain ⟨j, hj, rfl⟩ := inB_of (n := 64) (by omega) h
    refine cl_pi (x := oI (rbA M (nI j))) (run_V hC (cJ_X8_robotIn l G d0 mi Rf ja M E j hj hI.u18) (As := [.int (nI j)]) (rest := [.int 0, .ref oa]) rfl rfl ml_L_72 im_X8_robotIn se_X8_robotIn ini_X8 cd_X8_robotIn ⟨rfl, na_X8_robotIn⟩ jB_blind (hW.recv hK (show jV M 8 0 from rfl) rfl) (jB_at hX hRf hW va_S.rf) hl.1 (Nat.le_of_ble_eq_true rfl) ⟨Nat.le_of_ble_eq_true rfl, Nat.le_of_ble_eq_true rfl⟩ ⟨by show 0 + 0 ≤ 1; omega, by show 0 + 0 ≤ 6; omega⟩ rfl dL_robotIn_4) rfl ?_
    refine lv_i2l hx hb dL_robotIn_7 rfl ?_
    refine r2_lst hC hK (A := lA Rf oa) hO va_S.rf (Or.inr rfl) dL_robotIn_8 (fun H locs hO hz hoq hS => ?_)
    have hW := hW.kept (H1 := H) (fun q hq hnR => hoq q (fun e9 => hnR (by rw [e9]; exact hRo)))
    refine lv_goto (tgt := 15) hx hb dL_robotIn_9 (by decide) ?_
    refine lv_iconst (v := 0) hx hb dL_robotIn_15 (by decide) ?_
    subst hQ
    exact rt_qi ((oI (rbA M (nI j))).toInt64) hx hb hr hlk hS ⟨hT.symm, fun _ => congrArg Int32.toInt64 (by unfold rinR; rw [if_pos hT])⟩ (fun t9 ht9 _ => by show WJ G d0 Rf _ _ _ t9.heap ∧ oC G oa _ t9.heap; rw [ht9]; exact ⟨hW, hO⟩) (by show 0 ≤ 1; omega) (by show 0 ≤ 6; omega) dL_robotIn_16
  · have hT : cellT x = 1 := if_neg h
    have hno : inB x 64 = false := by simpa using h
    refine jl_catch (A0 := lA Rf oa) (run_VX hC (cJ_X8_robotInX l G d0 mi Rf ja M E x hno hl9) (As := [.int x]) (rest := [.int 0, .ref oa]) rfl rfl ml_L_72 im_X8_robotIn se_X8_robotIn ini_X8 cd_X8_robotIn ⟨rfl, na_X8_robotIn⟩ jT_blind (hW.recv hK (show jV M 8 0 from rfl) rfl) (jT_at hX hT9 hRf hW va_S.rf) hl.1 (Nat.le_of_ble_eq_true rfl) ⟨Nat.le_of_ble_eq_true rfl, Nat.le_of_ble_eq_true rfl⟩ ⟨by show 0 + 1 ≤ 1; omega, by show 0 + 6 ≤ 6; omega⟩ rfl dL_robotIn_4) va_S.rf (fun q h => Or.inl h) hC.2.2.2.1 [] ⟨0, 9, 12, 13⟩ [] htab (fun z hz => nomatch hz) (by decide) (by decide) (hC.2.2.2.2 _ cl_L_13) (va_Nw.use rfl (hT9.2.1 (xIAE, xIAE) (by decide))) (fun q H locs hz hk hS => ?_)
    have hW := hW.kept (H1 := H) (fun q hq _ => hk q hq)
    have hO : oC G oa v H := va_at.kept hO (hk _ (va_at.lt hO))
    refine lv_astore_n (lv' := [(3, .ref q), (0, .ref (ja 8 0)), (1, .int x), (2, .ref oa)]) hx hb dL_robotIn_12 rfl hl (by decide) rfl (fun ls hl => ?_)
    refine lv_iconst (v := 1) hx hb dL_robotIn_13 (by decide) ?_
    subst hQ
    exact rt_qi v hx hb hr hlk hS ⟨hT.symm, fun z => by rw [hT] at z; exact absurd z (by decide)⟩ (fun t9 ht9 _ => by show WJ G d0 Rf _ _ _ t9.heap ∧ oC G oa _ t9.heap; rw [ht9]; exact ⟨hW, hO⟩) (by show 0 + 1 ≤ 1; omega) (by show 0 + 6 ≤ 6; omega) dL_robotIn_14
set_option maxHeartbeats 4000000 in
set_option maxRecDepth 100000 in
theorem lL_cellOf (l : Launch) (G : gG) (d0 mi : Nat) (Rf : Nat → Prop) (ja : Nat → Nat → Nat) (M : MS) (E : ES) (oa : Nat) (v : Int64) (x : Int32) (B : Nat) (hI : INV B M) (hCE : CE M E) (hRo : Rf oa) (hl9 : l.stackTraces = false) : Met l yL_cellOf (Cond.codeWith yL_cellOf cL_cellOf 4 (some .int) [(0, 9, 12, 36)] :: BIG) (rmL 8 1 6) (va_Pc [.ref (ja 8 0), .int x, .ref oa] (lJ G d0 mi Rf ja M E oa v)) (va_Qi (S := Int64) (fun r u => r = rT M x ∧ (rT M x = 0 → u = (rowR M 18 x).toInt64)) (fun u t => WJ G d0 Rf ja M E t.heap ∧ oC G oa u t.heap) (lA Rf oa)) 1 6 (lA Rf oa) := by
  refine st_H (own := RL) (by decide +kernel) rfl (Nat.le_of_ble_eq_true rfl) ?_
  intro p e s m below meth c ls args Q hQ hC hr hlk htab hl hP
  obtain ⟨⟨⟨hW, hX, hRf⟩, hT9⟩, hO, hN⟩ := hP
  have hK := hX.1
  have hx := hC.1
  have hb := hC.2.1
  have hl : lv_has ls 4 [(0, .ref (ja 8 0)), (1, .int x), (2, .ref oa)] := hl
  have h16 := hW.cnt.T16
  have h6 := hW.cnt.R6
  have h10 := hW.cnt.O10
  have h15 : nP M ≤ 1500 := Nat.le_trans (Nat.le_add_right _ _) hI.p.2.1
  refine lv_aload_n hx hb dL_cellOf_0 rfl (lv_at hl 2 rfl) ?_
  refine lv_iconst (v := 0) hx hb dL_cellOf_1 (by decide) ?_
  refine lv_aload_n hx hb dL_cellOf_2 rfl (lv_at hl 0 rfl) ?_
  refine lv_iload_n hx hb dL_cellOf_3 rfl (lv_at hl 1 rfl) ?_
  by_cases h : inB x (nI (nR M)) = true
  · have hT : rT M x = 0 := if_pos h
    obtain ⟨j, hj, rfl⟩ := inB_of (n := nR M) (by omega) h
    refine cl_pi (x := M 18 j) (run_V hC (cJ_X8_cellOf l G d0 mi Rf ja M E j hj) (As := [.int (nI j)]) (rest := [.int 0, .ref oa]) rfl rfl ml_L_75 im_X8_cellOf se_X8_cellOf ini_X8 cd_X8_cellOf ⟨rfl, na_X8_cellOf⟩ jB_blind (hW.recv hK (show jV M 8 0 from rfl) rfl) (jB_at hX hRf hW va_S.rf) hl.1 (Nat.le_of_ble_eq_true rfl) ⟨Nat.le_of_ble_eq_true rfl, Nat.le_of_ble_eq_true rfl⟩ ⟨by show 0 + 0 ≤ 1; omega, by show 0 + 0 ≤ 6; omega⟩ rfl dL_cellOf_4) rfl ?_
    refine lv_i2l hx hb dL_cellOf_7 rfl ?_
    refine r2_lst hC hK (A := lA Rf oa) hO va_S.rf (Or.inr rfl) dL_cellOf_8 (fun H locs hO hz hoq hS => ?_)
    have hW := hW.kept (H1 := H) (fun q hq hnR => hoq q (fun e9 => hnR (by rw [e9]; exact hRo)))
    refine lv_goto (tgt := 15) hx hb dL_cellOf_9 (by decide) ?_
    refine lv_iconst (v := 0) hx hb dL_cellOf_15 (by decide) ?_
    subst hQ
    exact rt_qi ((M 18 j).toInt64) hx hb hr hlk hS ⟨hT.symm, fun _ => congrArg Int32.toInt64 (by unfold rowR; rw [if_pos hT, ix_nI (by omega)])⟩ (fun t9 ht9 _ => by show WJ G d0 Rf _ _ _ t9.heap ∧ oC G oa _ t9.heap; rw [ht9]; exact ⟨hW, hO⟩) (by show 0 ≤ 1; omega) (by show 0 ≤ 6; omega) dL_cellOf_16
  · have hT : rT M x = 1 := if_neg h
    have hno : inB x (nI (nR M)) = false := by simpa using h
    refine jl_catch (A0 := lA Rf oa) (run_VX hC (cJ_X8_cellOfX l G d0 mi Rf ja M E x hno hl9) (As := [.int x]) (rest := [.int 0, .ref oa]) rfl rfl ml_L_75 im_X8_cellOf se_X8_cellOf ini_X8 cd_X8_cellOf ⟨rfl, na_X8_cellOf⟩ jT_blind (hW.recv hK (show jV M 8 0 from rfl) rfl) (jT_at hX hT9 hRf hW va_S.rf) hl.1 (Nat.le_of_ble_eq_true rfl) ⟨Nat.le_of_ble_eq_true rfl, Nat.le_of_ble_eq_true rfl⟩ ⟨by show 0 + 1 ≤ 1; omega, by show 0 + 6 ≤ 6; omega⟩ rfl dL_cellOf_4) va_S.rf (fun q h => Or.inl h) hC.2.2.2.1 [] ⟨0, 9, 12, 36⟩ [] htab (fun z hz => nomatch hz) (by decide) (by decide) (hC.2.2.2.2 _ cl_L_36) (va_Nw.use rfl (hT9.2.1 (xIOE, xIOE) (by decide))) (fun q H locs hz hk hS => ?_)
    have hW := hW.kept (H1 := H) (fun q hq _ => hk q hq)
    have hO : oC G oa v H := va_at.kept hO (hk _ (va_at.lt hO))
    refine lv_astore_n (lv' := [(3, .ref q), (0, .ref (ja 8 0)), (1, .int x), (2, .ref oa)]) hx hb dL_cellOf_12 rfl hl (by decide) rfl (fun ls hl => ?_)
    refine lv_iconst (v := 1) hx hb dL_cellOf_13 (by decide) ?_
    subst hQ
    exact rt_qi v hx hb hr hlk hS ⟨hT.symm, fun z => by rw [hT] at z; exact absurd z (by decide)⟩ (fun t9 ht9 _ => by show WJ G d0 Rf _ _ _ t9.heap ∧ oC G oa _ t9.heap; rw [ht9]; exact ⟨hW, hO⟩) (by show 0 + 1 ≤ 1; omega) (by show 0 + 6 ≤ 6; omega) dL_cellOf_14
set_option maxHeartbeats 4000000 in
set_option maxRecDepth 100000 in
theorem lL_state (l : Launch) (G : gG) (d0 mi : Nat) (Rf : Nat → Prop) (ja : Nat → Nat → Nat) (M : MS) (E : ES) (oa : Nat) (v : Int64) (x : Int32) (B : Nat) (hI : INV B M) (hCE : CE M E) (hRo : Rf oa) (hl9 : l.stackTraces = false) : Met l yL_state (Cond.codeWith yL_state cL_state 4 (some .int) [(0, 9, 12, 36)] :: BIG) (rmL 8 1 6) (va_Pc [.ref (ja 8 0), .int x, .ref oa] (lJ G d0 mi Rf ja M E oa v)) (va_Qi (S := Int64) (fun r u => r = rT M x ∧ (rT M x = 0 → u = (rowR M 20 x).toInt64)) (fun u t => WJ G d0 Rf ja M E t.heap ∧ oC G oa u t.heap) (lA Rf oa)) 1 6 (lA Rf oa) := by
  refine st_H (own := RL) (by decide +kernel) rfl (Nat.le_of_ble_eq_true rfl) ?_
  intro p e s m below meth c ls args Q hQ hC hr hlk htab hl hP
  obtain ⟨⟨⟨hW, hX, hRf⟩, hT9⟩, hO, hN⟩ := hP
  have hK := hX.1
  have hx := hC.1
  have hb := hC.2.1
  have hl : lv_has ls 4 [(0, .ref (ja 8 0)), (1, .int x), (2, .ref oa)] := hl
  have h16 := hW.cnt.T16
  have h6 := hW.cnt.R6
  have h10 := hW.cnt.O10
  have h15 : nP M ≤ 1500 := Nat.le_trans (Nat.le_add_right _ _) hI.p.2.1
  refine lv_aload_n hx hb dL_state_0 rfl (lv_at hl 2 rfl) ?_
  refine lv_iconst (v := 0) hx hb dL_state_1 (by decide) ?_
  refine lv_aload_n hx hb dL_state_2 rfl (lv_at hl 0 rfl) ?_
  refine lv_iload_n hx hb dL_state_3 rfl (lv_at hl 1 rfl) ?_
  by_cases h : inB x (nI (nR M)) = true
  · have hT : rT M x = 0 := if_pos h
    obtain ⟨j, hj, rfl⟩ := inB_of (n := nR M) (by omega) h
    refine cl_pi (x := M 20 j) (run_V hC (cJ_X8_state l G d0 mi Rf ja M E j hj) (As := [.int (nI j)]) (rest := [.int 0, .ref oa]) rfl rfl ml_L_78 im_X8_state se_X8_state ini_X8 cd_X8_state ⟨rfl, na_X8_state⟩ jB_blind (hW.recv hK (show jV M 8 0 from rfl) rfl) (jB_at hX hRf hW va_S.rf) hl.1 (Nat.le_of_ble_eq_true rfl) ⟨Nat.le_of_ble_eq_true rfl, Nat.le_of_ble_eq_true rfl⟩ ⟨by show 0 + 0 ≤ 1; omega, by show 0 + 0 ≤ 6; omega⟩ rfl dL_state_4) rfl ?_
    refine lv_i2l hx hb dL_state_7 rfl ?_
    refine r2_lst hC hK (A := lA Rf oa) hO va_S.rf (Or.inr rfl) dL_state_8 (fun H locs hO hz hoq hS => ?_)
    have hW := hW.kept (H1 := H) (fun q hq hnR => hoq q (fun e9 => hnR (by rw [e9]; exact hRo)))
    refine lv_goto (tgt := 15) hx hb dL_state_9 (by decide) ?_
    refine lv_iconst (v := 0) hx hb dL_state_15 (by decide) ?_
    subst hQ
    exact rt_qi ((M 20 j).toInt64) hx hb hr hlk hS ⟨hT.symm, fun _ => congrArg Int32.toInt64 (by unfold rowR; rw [if_pos hT, ix_nI (by omega)])⟩ (fun t9 ht9 _ => by show WJ G d0 Rf _ _ _ t9.heap ∧ oC G oa _ t9.heap; rw [ht9]; exact ⟨hW, hO⟩) (by show 0 ≤ 1; omega) (by show 0 ≤ 6; omega) dL_state_16
  · have hT : rT M x = 1 := if_neg h
    have hno : inB x (nI (nR M)) = false := by simpa using h
    refine jl_catch (A0 := lA Rf oa) (run_VX hC (cJ_X8_stateX l G d0 mi Rf ja M E x hno hl9) (As := [.int x]) (rest := [.int 0, .ref oa]) rfl rfl ml_L_78 im_X8_state se_X8_state ini_X8 cd_X8_state ⟨rfl, na_X8_state⟩ jT_blind (hW.recv hK (show jV M 8 0 from rfl) rfl) (jT_at hX hT9 hRf hW va_S.rf) hl.1 (Nat.le_of_ble_eq_true rfl) ⟨Nat.le_of_ble_eq_true rfl, Nat.le_of_ble_eq_true rfl⟩ ⟨by show 0 + 1 ≤ 1; omega, by show 0 + 6 ≤ 6; omega⟩ rfl dL_state_4) va_S.rf (fun q h => Or.inl h) hC.2.2.2.1 [] ⟨0, 9, 12, 36⟩ [] htab (fun z hz => nomatch hz) (by decide) (by decide) (hC.2.2.2.2 _ cl_L_36) (va_Nw.use rfl (hT9.2.1 (xIOE, xIOE) (by decide))) (fun q H locs hz hk hS => ?_)
    have hW := hW.kept (H1 := H) (fun q hq _ => hk q hq)
    have hO : oC G oa v H := va_at.kept hO (hk _ (va_at.lt hO))
    refine lv_astore_n (lv' := [(3, .ref q), (0, .ref (ja 8 0)), (1, .int x), (2, .ref oa)]) hx hb dL_state_12 rfl hl (by decide) rfl (fun ls hl => ?_)
    refine lv_iconst (v := 1) hx hb dL_state_13 (by decide) ?_
    subst hQ
    exact rt_qi v hx hb hr hlk hS ⟨hT.symm, fun z => by rw [hT] at z; exact absurd z (by decide)⟩ (fun t9 ht9 _ => by show WJ G d0 Rf _ _ _ t9.heap ∧ oC G oa _ t9.heap; rw [ht9]; exact ⟨hW, hO⟩) (by show 0 + 1 ≤ 1; omega) (by show 0 + 6 ≤ 6; omega) dL_state_14
set_option maxHeartbeats 4000000 in
set_option maxRecDepth 100000 in
theorem lL_trayOf (l : Launch) (G : gG) (d0 mi : Nat) (Rf : Nat → Prop) (ja : Nat → Nat → Nat) (M : MS) (E : ES) (oa : Nat) (v : Int64) (x : Int32) (B : Nat) (hI : INV B M) (hCE : CE M E) (hRo : Rf oa) (hl9 : l.stackTraces = false) : Met l yL_trayOf (Cond.codeWith yL_trayOf cL_trayOf 4 (some .int) [(0, 9, 12, 36)] :: BIG) (rmL 8 1 6) (va_Pc [.ref (ja 8 0), .int x, .ref oa] (lJ G d0 mi Rf ja M E oa v)) (va_Qi (S := Int64) (fun r u => r = rT M x ∧ (rT M x = 0 → u = (rowR M 21 x).toInt64)) (fun u t => WJ G d0 Rf ja M E t.heap ∧ oC G oa u t.heap) (lA Rf oa)) 1 6 (lA Rf oa) := by
  refine st_H (own := RL) (by decide +kernel) rfl (Nat.le_of_ble_eq_true rfl) ?_
  intro p e s m below meth c ls args Q hQ hC hr hlk htab hl hP
  obtain ⟨⟨⟨hW, hX, hRf⟩, hT9⟩, hO, hN⟩ := hP
  have hK := hX.1
  have hx := hC.1
  have hb := hC.2.1
  have hl : lv_has ls 4 [(0, .ref (ja 8 0)), (1, .int x), (2, .ref oa)] := hl
  have h16 := hW.cnt.T16
  have h6 := hW.cnt.R6
  have h10 := hW.cnt.O10
  have h15 : nP M ≤ 1500 := Nat.le_trans (Nat.le_add_right _ _) hI.p.2.1
  refine lv_aload_n hx hb dL_trayOf_0 rfl (lv_at hl 2 rfl) ?_
  refine lv_iconst (v := 0) hx hb dL_trayOf_1 (by decide) ?_
  refine lv_aload_n hx hb dL_trayOf_2 rfl (lv_at hl 0 rfl) ?_
  refine lv_iload_n hx hb dL_trayOf_3 rfl (lv_at hl 1 rfl) ?_
  by_cases h : inB x (nI (nR M)) = true
  · have hT : rT M x = 0 := if_pos h
    obtain ⟨j, hj, rfl⟩ := inB_of (n := nR M) (by omega) h
    refine cl_pi (x := M 21 j) (run_V hC (cJ_X8_trayOf l G d0 mi Rf ja M E j hj) (As := [.int (nI j)]) (rest := [.int 0, .ref oa]) rfl rfl ml_L_81 im_X8_trayOf se_X8_trayOf ini_X8 cd_X8_trayOf ⟨rfl, na_X8_trayOf⟩ jB_blind (hW.recv hK (show jV M 8 0 from rfl) rfl) (jB_at hX hRf hW va_S.rf) hl.1 (Nat.le_of_ble_eq_true rfl) ⟨Nat.le_of_ble_eq_true rfl, Nat.le_of_ble_eq_true rfl⟩ ⟨by show 0 + 0 ≤ 1; omega, by show 0 + 0 ≤ 6; omega⟩ rfl dL_trayOf_4) rfl ?_
    refine lv_i2l hx hb dL_trayOf_7 rfl ?_
    refine r2_lst hC hK (A := lA Rf oa) hO va_S.rf (Or.inr rfl) dL_trayOf_8 (fun H locs hO hz hoq hS => ?_)
    have hW := hW.kept (H1 := H) (fun q hq hnR => hoq q (fun e9 => hnR (by rw [e9]; exact hRo)))
    refine lv_goto (tgt := 15) hx hb dL_trayOf_9 (by decide) ?_
    refine lv_iconst (v := 0) hx hb dL_trayOf_15 (by decide) ?_
    subst hQ
    exact rt_qi ((M 21 j).toInt64) hx hb hr hlk hS ⟨hT.symm, fun _ => congrArg Int32.toInt64 (by unfold rowR; rw [if_pos hT, ix_nI (by omega)])⟩ (fun t9 ht9 _ => by show WJ G d0 Rf _ _ _ t9.heap ∧ oC G oa _ t9.heap; rw [ht9]; exact ⟨hW, hO⟩) (by show 0 ≤ 1; omega) (by show 0 ≤ 6; omega) dL_trayOf_16
  · have hT : rT M x = 1 := if_neg h
    have hno : inB x (nI (nR M)) = false := by simpa using h
    refine jl_catch (A0 := lA Rf oa) (run_VX hC (cJ_X8_trayOfX l G d0 mi Rf ja M E x hno hl9) (As := [.int x]) (rest := [.int 0, .ref oa]) rfl rfl ml_L_81 im_X8_trayOf se_X8_trayOf ini_X8 cd_X8_trayOf ⟨rfl, na_X8_trayOf⟩ jT_blind (hW.recv hK (show jV M 8 0 from rfl) rfl) (jT_at hX hT9 hRf hW va_S.rf) hl.1 (Nat.le_of_ble_eq_true rfl) ⟨Nat.le_of_ble_eq_true rfl, Nat.le_of_ble_eq_true rfl⟩ ⟨by show 0 + 1 ≤ 1; omega, by show 0 + 6 ≤ 6; omega⟩ rfl dL_trayOf_4) va_S.rf (fun q h => Or.inl h) hC.2.2.2.1 [] ⟨0, 9, 12, 36⟩ [] htab (fun z hz => nomatch hz) (by decide) (by decide) (hC.2.2.2.2 _ cl_L_36) (va_Nw.use rfl (hT9.2.1 (xIOE, xIOE) (by decide))) (fun q H locs hz hk hS => ?_)
    have hW := hW.kept (H1 := H) (fun q hq _ => hk q hq)
    have hO : oC G oa v H := va_at.kept hO (hk _ (va_at.lt hO))
    refine lv_astore_n (lv' := [(3, .ref q), (0, .ref (ja 8 0)), (1, .int x), (2, .ref oa)]) hx hb dL_trayOf_12 rfl hl (by decide) rfl (fun ls hl => ?_)
    refine lv_iconst (v := 1) hx hb dL_trayOf_13 (by decide) ?_
    subst hQ
    exact rt_qi v hx hb hr hlk hS ⟨hT.symm, fun z => by rw [hT] at z; exact absurd z (by decide)⟩ (fun t9 ht9 _ => by show WJ G d0 Rf _ _ _ t9.heap ∧ oC G oa _ t9.heap; rw [ht9]; exact ⟨hW, hO⟩) (by show 0 + 1 ≤ 1; omega) (by show 0 + 6 ≤ 6; omega) dL_trayOf_14
set_option maxHeartbeats 4000000 in
set_option maxRecDepth 100000 in
theorem lL_asked (l : Launch) (G : gG) (d0 mi : Nat) (Rf : Nat → Prop) (ja : Nat → Nat → Nat) (M : MS) (E : ES) (oa : Nat) (v : Int64) (x : Int32) (B : Nat) (hI : INV B M) (hCE : CE M E) (hRo : Rf oa) (hl9 : l.stackTraces = false) : Met l yL_asked (Cond.codeWith yL_asked cL_asked 4 (some .int) [(0, 9, 12, 36)] :: BIG) (rmL 8 1 6) (va_Pc [.ref (ja 8 0), .int x, .ref oa] (lJ G d0 mi Rf ja M E oa v)) (va_Qi (S := Int64) (fun r u => r = rT M x ∧ (rT M x = 0 → u = (rowR M 24 x).toInt64)) (fun u t => WJ G d0 Rf ja M E t.heap ∧ oC G oa u t.heap) (lA Rf oa)) 1 6 (lA Rf oa) := by
  refine st_H (own := RL) (by decide +kernel) rfl (Nat.le_of_ble_eq_true rfl) ?_
  intro p e s m below meth c ls args Q hQ hC hr hlk htab hl hP
  obtain ⟨⟨⟨hW, hX, hRf⟩, hT9⟩, hO, hN⟩ := hP
  have hK := hX.1
  have hx := hC.1
  have hb := hC.2.1
  have hl : lv_has ls 4 [(0, .ref (ja 8 0)), (1, .int x), (2, .ref oa)] := hl
  have h16 := hW.cnt.T16
  have h6 := hW.cnt.R6
  have h10 := hW.cnt.O10
  have h15 : nP M ≤ 1500 := Nat.le_trans (Nat.le_add_right _ _) hI.p.2.1
  refine lv_aload_n hx hb dL_asked_0 rfl (lv_at hl 2 rfl) ?_
  refine lv_iconst (v := 0) hx hb dL_asked_1 (by decide) ?_
  refine lv_aload_n hx hb dL_asked_2 rfl (lv_at hl 0 rfl) ?_
  refine lv_iload_n hx hb dL_asked_3 rfl (lv_at hl 1 rfl) ?_
  by_cases h : inB x (nI (nR M)) = true
  · have hT : rT M x = 0 := if_pos h
    obtain ⟨j, hj, rfl⟩ := inB_of (n := nR M) (by omega) h
    refine cl_pi (x := M 24 j) (run_V hC (cJ_X8_asked l G d0 mi Rf ja M E j hj) (As := [.int (nI j)]) (rest := [.int 0, .ref oa]) rfl rfl ml_L_84 im_X8_asked se_X8_asked ini_X8 cd_X8_asked ⟨rfl, na_X8_asked⟩ jB_blind (hW.recv hK (show jV M 8 0 from rfl) rfl) (jB_at hX hRf hW va_S.rf) hl.1 (Nat.le_of_ble_eq_true rfl) ⟨Nat.le_of_ble_eq_true rfl, Nat.le_of_ble_eq_true rfl⟩ ⟨by show 0 + 0 ≤ 1; omega, by show 0 + 0 ≤ 6; omega⟩ rfl dL_asked_4) rfl ?_
    refine lv_i2l hx hb dL_asked_7 rfl ?_
    refine r2_lst hC hK (A := lA Rf oa) hO va_S.rf (Or.inr rfl) dL_asked_8 (fun H locs hO hz hoq hS => ?_)
    have hW := hW.kept (H1 := H) (fun q hq hnR => hoq q (fun e9 => hnR (by rw [e9]; exact hRo)))
    refine lv_goto (tgt := 15) hx hb dL_asked_9 (by decide) ?_
    refine lv_iconst (v := 0) hx hb dL_asked_15 (by decide) ?_
    subst hQ
    exact rt_qi ((M 24 j).toInt64) hx hb hr hlk hS ⟨hT.symm, fun _ => congrArg Int32.toInt64 (by unfold rowR; rw [if_pos hT, ix_nI (by omega)])⟩ (fun t9 ht9 _ => by show WJ G d0 Rf _ _ _ t9.heap ∧ oC G oa _ t9.heap; rw [ht9]; exact ⟨hW, hO⟩) (by show 0 ≤ 1; omega) (by show 0 ≤ 6; omega) dL_asked_16
  · have hT : rT M x = 1 := if_neg h
    have hno : inB x (nI (nR M)) = false := by simpa using h
    refine jl_catch (A0 := lA Rf oa) (run_VX hC (cJ_X8_askedX l G d0 mi Rf ja M E x hno hl9) (As := [.int x]) (rest := [.int 0, .ref oa]) rfl rfl ml_L_84 im_X8_asked se_X8_asked ini_X8 cd_X8_asked ⟨rfl, na_X8_asked⟩ jT_blind (hW.recv hK (show jV M 8 0 from rfl) rfl) (jT_at hX hT9 hRf hW va_S.rf) hl.1 (Nat.le_of_ble_eq_true rfl) ⟨Nat.le_of_ble_eq_true rfl, Nat.le_of_ble_eq_true rfl⟩ ⟨by show 0 + 1 ≤ 1; omega, by show 0 + 6 ≤ 6; omega⟩ rfl dL_asked_4) va_S.rf (fun q h => Or.inl h) hC.2.2.2.1 [] ⟨0, 9, 12, 36⟩ [] htab (fun z hz => nomatch hz) (by decide) (by decide) (hC.2.2.2.2 _ cl_L_36) (va_Nw.use rfl (hT9.2.1 (xIOE, xIOE) (by decide))) (fun q H locs hz hk hS => ?_)
    have hW := hW.kept (H1 := H) (fun q hq _ => hk q hq)
    have hO : oC G oa v H := va_at.kept hO (hk _ (va_at.lt hO))
    refine lv_astore_n (lv' := [(3, .ref q), (0, .ref (ja 8 0)), (1, .int x), (2, .ref oa)]) hx hb dL_asked_12 rfl hl (by decide) rfl (fun ls hl => ?_)
    refine lv_iconst (v := 1) hx hb dL_asked_13 (by decide) ?_
    subst hQ
    exact rt_qi v hx hb hr hlk hS ⟨hT.symm, fun z => by rw [hT] at z; exact absurd z (by decide)⟩ (fun t9 ht9 _ => by show WJ G d0 Rf _ _ _ t9.heap ∧ oC G oa _ t9.heap; rw [ht9]; exact ⟨hW, hO⟩) (by show 0 + 1 ≤ 1; omega) (by show 0 + 6 ≤ 6; omega) dL_asked_14
set_option maxHeartbeats 4000000 in
set_option maxRecDepth 100000 in
theorem lL_pickedFrom (l : Launch) (G : gG) (d0 mi : Nat) (Rf : Nat → Prop) (ja : Nat → Nat → Nat) (M : MS) (E : ES) (oa : Nat) (v : Int64) (x : Int32) (B : Nat) (hI : INV B M) (hCE : CE M E) (hRo : Rf oa) (hl9 : l.stackTraces = false) : Met l yL_pickedFrom (Cond.codeWith yL_pickedFrom cL_pickedFrom 4 (some .int) [(0, 9, 12, 36)] :: BIG) (rmL 8 1 6) (va_Pc [.ref (ja 8 0), .int x, .ref oa] (lJ G d0 mi Rf ja M E oa v)) (va_Qi (S := Int64) (fun r u => r = pT M x ∧ (pT M x = 0 → u = (pckR M 35 x).toInt64)) (fun u t => WJ G d0 Rf ja M E t.heap ∧ oC G oa u t.heap) (lA Rf oa)) 1 6 (lA Rf oa) := by
  refine st_H (own := RL) (by decide +kernel) rfl (Nat.le_of_ble_eq_true rfl) ?_
  intro p e s m below meth c ls args Q hQ hC hr hlk htab hl hP
  obtain ⟨⟨⟨hW, hX, hRf⟩, hT9⟩, hO, hN⟩ := hP
  have hK := hX.1
  have hx := hC.1
  have hb := hC.2.1
  have hl : lv_has ls 4 [(0, .ref (ja 8 0)), (1, .int x), (2, .ref oa)] := hl
  have h16 := hW.cnt.T16
  have h6 := hW.cnt.R6
  have h10 := hW.cnt.O10
  have h15 : nP M ≤ 1500 := Nat.le_trans (Nat.le_add_right _ _) hI.p.2.1
  refine lv_aload_n hx hb dL_pickedFrom_0 rfl (lv_at hl 2 rfl) ?_
  refine lv_iconst (v := 0) hx hb dL_pickedFrom_1 (by decide) ?_
  refine lv_aload_n hx hb dL_pickedFrom_2 rfl (lv_at hl 0 rfl) ?_
  refine lv_iload_n hx hb dL_pickedFrom_3 rfl (lv_at hl 1 rfl) ?_
  by_cases h : inB x (nI (nP M)) = true
  · have hT : pT M x = 0 := if_pos h
    obtain ⟨j, hj, rfl⟩ := inB_of (n := nP M) (by omega) h
    refine cl_pi (x := M 35 j) (run_V hC (cJ_X8_pickedFrom l G d0 mi Rf ja M E j hj h15) (As := [.int (nI j)]) (rest := [.int 0, .ref oa]) rfl rfl ml_L_96 im_X8_pickedFrom se_X8_pickedFrom ini_X8 cd_X8_pickedFrom ⟨rfl, na_X8_pickedFrom⟩ jB_blind (hW.recv hK (show jV M 8 0 from rfl) rfl) (jB_at hX hRf hW va_S.rf) hl.1 (Nat.le_of_ble_eq_true rfl) ⟨Nat.le_of_ble_eq_true rfl, Nat.le_of_ble_eq_true rfl⟩ ⟨by show 0 + 0 ≤ 1; omega, by show 0 + 0 ≤ 6; omega⟩ rfl dL_pickedFrom_4) rfl ?_
    refine lv_i2l hx hb dL_pickedFrom_7 rfl ?_
    refine r2_lst hC hK (A := lA Rf oa) hO va_S.rf (Or.inr rfl) dL_pickedFrom_8 (fun H locs hO hz hoq hS => ?_)
    have hW := hW.kept (H1 := H) (fun q hq hnR => hoq q (fun e9 => hnR (by rw [e9]; exact hRo)))
    refine lv_goto (tgt := 15) hx hb dL_pickedFrom_9 (by decide) ?_
    refine lv_iconst (v := 0) hx hb dL_pickedFrom_15 (by decide) ?_
    subst hQ
    exact rt_qi ((M 35 j).toInt64) hx hb hr hlk hS ⟨hT.symm, fun _ => congrArg Int32.toInt64 (by unfold pckR; rw [if_pos hT, ix_nI (by omega)])⟩ (fun t9 ht9 _ => by show WJ G d0 Rf _ _ _ t9.heap ∧ oC G oa _ t9.heap; rw [ht9]; exact ⟨hW, hO⟩) (by show 0 ≤ 1; omega) (by show 0 ≤ 6; omega) dL_pickedFrom_16
  · have hT : pT M x = 1 := if_neg h
    have hno : inB x (nI (nP M)) = false := by simpa using h
    refine jl_catch (A0 := lA Rf oa) (run_VX hC (cJ_X8_pickedFromX l G d0 mi Rf ja M E x hno h15 hl9) (As := [.int x]) (rest := [.int 0, .ref oa]) rfl rfl ml_L_96 im_X8_pickedFrom se_X8_pickedFrom ini_X8 cd_X8_pickedFrom ⟨rfl, na_X8_pickedFrom⟩ jT_blind (hW.recv hK (show jV M 8 0 from rfl) rfl) (jT_at hX hT9 hRf hW va_S.rf) hl.1 (Nat.le_of_ble_eq_true rfl) ⟨Nat.le_of_ble_eq_true rfl, Nat.le_of_ble_eq_true rfl⟩ ⟨by show 0 + 1 ≤ 1; omega, by show 0 + 6 ≤ 6; omega⟩ rfl dL_pickedFrom_4) va_S.rf (fun q h => Or.inl h) hC.2.2.2.1 [] ⟨0, 9, 12, 36⟩ [] htab (fun z hz => nomatch hz) (by decide) (by decide) (hC.2.2.2.2 _ cl_L_36) (va_Nw.use rfl (hT9.2.1 (xIOE, xIOE) (by decide))) (fun q H locs hz hk hS => ?_)
    have hW := hW.kept (H1 := H) (fun q hq _ => hk q hq)
    have hO : oC G oa v H := va_at.kept hO (hk _ (va_at.lt hO))
    refine lv_astore_n (lv' := [(3, .ref q), (0, .ref (ja 8 0)), (1, .int x), (2, .ref oa)]) hx hb dL_pickedFrom_12 rfl hl (by decide) rfl (fun ls hl => ?_)
    refine lv_iconst (v := 1) hx hb dL_pickedFrom_13 (by decide) ?_
    subst hQ
    exact rt_qi v hx hb hr hlk hS ⟨hT.symm, fun z => by rw [hT] at z; exact absurd z (by decide)⟩ (fun t9 ht9 _ => by show WJ G d0 Rf _ _ _ t9.heap ∧ oC G oa _ t9.heap; rw [ht9]; exact ⟨hW, hO⟩) (by show 0 + 1 ≤ 1; omega) (by show 0 + 6 ≤ 6; omega) dL_pickedFrom_14
set_option maxHeartbeats 4000000 in
set_option maxRecDepth 100000 in
theorem lL_pickedFor (l : Launch) (G : gG) (d0 mi : Nat) (Rf : Nat → Prop) (ja : Nat → Nat → Nat) (M : MS) (E : ES) (oa : Nat) (v : Int64) (x : Int32) (B : Nat) (hI : INV B M) (hCE : CE M E) (hRo : Rf oa) (hl9 : l.stackTraces = false) : Met l yL_pickedFor (Cond.codeWith yL_pickedFor cL_pickedFor 4 (some .int) [(0, 9, 12, 36)] :: BIG) (rmL 8 1 6) (va_Pc [.ref (ja 8 0), .int x, .ref oa] (lJ G d0 mi Rf ja M E oa v)) (va_Qi (S := Int64) (fun r u => r = pT M x ∧ (pT M x = 0 → u = (pckR M 36 x).toInt64)) (fun u t => WJ G d0 Rf ja M E t.heap ∧ oC G oa u t.heap) (lA Rf oa)) 1 6 (lA Rf oa) := by
  refine st_H (own := RL) (by decide +kernel) rfl (Nat.le_of_ble_eq_true rfl) ?_
  intro p e s m below meth c ls args Q hQ hC hr hlk htab hl hP
  obtain ⟨⟨⟨hW, hX, hRf⟩, hT9⟩, hO, hN⟩ := hP
  have hK := hX.1
  have hx := hC.1
  have hb := hC.2.1
  have hl : lv_has ls 4 [(0, .ref (ja 8 0)), (1, .int x), (2, .ref oa)] := hl
  have h16 := hW.cnt.T16
  have h6 := hW.cnt.R6
  have h10 := hW.cnt.O10
  have h15 : nP M ≤ 1500 := Nat.le_trans (Nat.le_add_right _ _) hI.p.2.1
  refine lv_aload_n hx hb dL_pickedFor_0 rfl (lv_at hl 2 rfl) ?_
  refine lv_iconst (v := 0) hx hb dL_pickedFor_1 (by decide) ?_
  refine lv_aload_n hx hb dL_pickedFor_2 rfl (lv_at hl 0 rfl) ?_
  refine lv_iload_n hx hb dL_pickedFor_3 rfl (lv_at hl 1 rfl) ?_
  by_cases h : inB x (nI (nP M)) = true
  · have hT : pT M x = 0 := if_pos h
    obtain ⟨j, hj, rfl⟩ := inB_of (n := nP M) (by omega) h
    refine cl_pi (x := M 36 j) (run_V hC (cJ_X8_pickedFor l G d0 mi Rf ja M E j hj h15) (As := [.int (nI j)]) (rest := [.int 0, .ref oa]) rfl rfl ml_L_99 im_X8_pickedFor se_X8_pickedFor ini_X8 cd_X8_pickedFor ⟨rfl, na_X8_pickedFor⟩ jB_blind (hW.recv hK (show jV M 8 0 from rfl) rfl) (jB_at hX hRf hW va_S.rf) hl.1 (Nat.le_of_ble_eq_true rfl) ⟨Nat.le_of_ble_eq_true rfl, Nat.le_of_ble_eq_true rfl⟩ ⟨by show 0 + 0 ≤ 1; omega, by show 0 + 0 ≤ 6; omega⟩ rfl dL_pickedFor_4) rfl ?_
    refine lv_i2l hx hb dL_pickedFor_7 rfl ?_
    refine r2_lst hC hK (A := lA Rf oa) hO va_S.rf (Or.inr rfl) dL_pickedFor_8 (fun H locs hO hz hoq hS => ?_)
    have hW := hW.kept (H1 := H) (fun q hq hnR => hoq q (fun e9 => hnR (by rw [e9]; exact hRo)))
    refine lv_goto (tgt := 15) hx hb dL_pickedFor_9 (by decide) ?_
    refine lv_iconst (v := 0) hx hb dL_pickedFor_15 (by decide) ?_
    subst hQ
    exact rt_qi ((M 36 j).toInt64) hx hb hr hlk hS ⟨hT.symm, fun _ => congrArg Int32.toInt64 (by unfold pckR; rw [if_pos hT, ix_nI (by omega)])⟩ (fun t9 ht9 _ => by show WJ G d0 Rf _ _ _ t9.heap ∧ oC G oa _ t9.heap; rw [ht9]; exact ⟨hW, hO⟩) (by show 0 ≤ 1; omega) (by show 0 ≤ 6; omega) dL_pickedFor_16
  · have hT : pT M x = 1 := if_neg h
    have hno : inB x (nI (nP M)) = false := by simpa using h
    refine jl_catch (A0 := lA Rf oa) (run_VX hC (cJ_X8_pickedForX l G d0 mi Rf ja M E x hno h15 hl9) (As := [.int x]) (rest := [.int 0, .ref oa]) rfl rfl ml_L_99 im_X8_pickedFor se_X8_pickedFor ini_X8 cd_X8_pickedFor ⟨rfl, na_X8_pickedFor⟩ jT_blind (hW.recv hK (show jV M 8 0 from rfl) rfl) (jT_at hX hT9 hRf hW va_S.rf) hl.1 (Nat.le_of_ble_eq_true rfl) ⟨Nat.le_of_ble_eq_true rfl, Nat.le_of_ble_eq_true rfl⟩ ⟨by show 0 + 1 ≤ 1; omega, by show 0 + 6 ≤ 6; omega⟩ rfl dL_pickedFor_4) va_S.rf (fun q h => Or.inl h) hC.2.2.2.1 [] ⟨0, 9, 12, 36⟩ [] htab (fun z hz => nomatch hz) (by decide) (by decide) (hC.2.2.2.2 _ cl_L_36) (va_Nw.use rfl (hT9.2.1 (xIOE, xIOE) (by decide))) (fun q H locs hz hk hS => ?_)
    have hW := hW.kept (H1 := H) (fun q hq _ => hk q hq)
    have hO : oC G oa v H := va_at.kept hO (hk _ (va_at.lt hO))
    refine lv_astore_n (lv' := [(3, .ref q), (0, .ref (ja 8 0)), (1, .int x), (2, .ref oa)]) hx hb dL_pickedFor_12 rfl hl (by decide) rfl (fun ls hl => ?_)
    refine lv_iconst (v := 1) hx hb dL_pickedFor_13 (by decide) ?_
    subst hQ
    exact rt_qi v hx hb hr hlk hS ⟨hT.symm, fun z => by rw [hT] at z; exact absurd z (by decide)⟩ (fun t9 ht9 _ => by show WJ G d0 Rf _ _ _ t9.heap ∧ oC G oa _ t9.heap; rw [ht9]; exact ⟨hW, hO⟩) (by show 0 + 1 ≤ 1; omega) (by show 0 + 6 ≤ 6; omega) dL_pickedFor_14
set_option maxHeartbeats 4000000 in
set_option maxRecDepth 100000 in
theorem lL_pickedIn (l : Launch) (G : gG) (d0 mi : Nat) (Rf : Nat → Prop) (ja : Nat → Nat → Nat) (M : MS) (E : ES) (oa : Nat) (v : Int64) (x : Int32) (B : Nat) (hI : INV B M) (hCE : CE M E) (hRo : Rf oa) (hl9 : l.stackTraces = false) : Met l yL_pickedIn (Cond.codeWith yL_pickedIn cL_pickedIn 4 (some .int) [(0, 9, 12, 36)] :: BIG) (rmL 8 1 6) (va_Pc [.ref (ja 8 0), .int x, .ref oa] (lJ G d0 mi Rf ja M E oa v)) (va_Qi (S := Int64) (fun r u => r = pT M x ∧ (pT M x = 0 → u = (pckR M 37 x).toInt64)) (fun u t => WJ G d0 Rf ja M E t.heap ∧ oC G oa u t.heap) (lA Rf oa)) 1 6 (lA Rf oa) := by
  refine st_H (own := RL) (by decide +kernel) rfl (Nat.le_of_ble_eq_true rfl) ?_
  intro p e s m below meth c ls args Q hQ hC hr hlk htab hl hP
  obtain ⟨⟨⟨hW, hX, hRf⟩, hT9⟩, hO, hN⟩ := hP
  have hK := hX.1
  have hx := hC.1
  have hb := hC.2.1
  have hl : lv_has ls 4 [(0, .ref (ja 8 0)), (1, .int x), (2, .ref oa)] := hl
  have h16 := hW.cnt.T16
  have h6 := hW.cnt.R6
  have h10 := hW.cnt.O10
  have h15 : nP M ≤ 1500 := Nat.le_trans (Nat.le_add_right _ _) hI.p.2.1
  refine lv_aload_n hx hb dL_pickedIn_0 rfl (lv_at hl 2 rfl) ?_
  refine lv_iconst (v := 0) hx hb dL_pickedIn_1 (by decide) ?_
  refine lv_aload_n hx hb dL_pickedIn_2 rfl (lv_at hl 0 rfl) ?_
  refine lv_iload_n hx hb dL_pickedIn_3 rfl (lv_at hl 1 rfl) ?_
  by_cases h : inB x (nI (nP M)) = true
  · have hT : pT M x = 0 := if_pos h
    obtain ⟨j, hj, rfl⟩ := inB_of (n := nP M) (by omega) h
    refine cl_pi (x := M 37 j) (run_V hC (cJ_X8_pickedIn l G d0 mi Rf ja M E j hj h15) (As := [.int (nI j)]) (rest := [.int 0, .ref oa]) rfl rfl ml_L_102 im_X8_pickedIn se_X8_pickedIn ini_X8 cd_X8_pickedIn ⟨rfl, na_X8_pickedIn⟩ jB_blind (hW.recv hK (show jV M 8 0 from rfl) rfl) (jB_at hX hRf hW va_S.rf) hl.1 (Nat.le_of_ble_eq_true rfl) ⟨Nat.le_of_ble_eq_true rfl, Nat.le_of_ble_eq_true rfl⟩ ⟨by show 0 + 0 ≤ 1; omega, by show 0 + 0 ≤ 6; omega⟩ rfl dL_pickedIn_4) rfl ?_
    refine lv_i2l hx hb dL_pickedIn_7 rfl ?_
    refine r2_lst hC hK (A := lA Rf oa) hO va_S.rf (Or.inr rfl) dL_pickedIn_8 (fun H locs hO hz hoq hS => ?_)
    have hW := hW.kept (H1 := H) (fun q hq hnR => hoq q (fun e9 => hnR (by rw [e9]; exact hRo)))
    refine lv_goto (tgt := 15) hx hb dL_pickedIn_9 (by decide) ?_
    refine lv_iconst (v := 0) hx hb dL_pickedIn_15 (by decide) ?_
    subst hQ
    exact rt_qi ((M 37 j).toInt64) hx hb hr hlk hS ⟨hT.symm, fun _ => congrArg Int32.toInt64 (by unfold pckR; rw [if_pos hT, ix_nI (by omega)])⟩ (fun t9 ht9 _ => by show WJ G d0 Rf _ _ _ t9.heap ∧ oC G oa _ t9.heap; rw [ht9]; exact ⟨hW, hO⟩) (by show 0 ≤ 1; omega) (by show 0 ≤ 6; omega) dL_pickedIn_16
  · have hT : pT M x = 1 := if_neg h
    have hno : inB x (nI (nP M)) = false := by simpa using h
    refine jl_catch (A0 := lA Rf oa) (run_VX hC (cJ_X8_pickedInX l G d0 mi Rf ja M E x hno h15 hl9) (As := [.int x]) (rest := [.int 0, .ref oa]) rfl rfl ml_L_102 im_X8_pickedIn se_X8_pickedIn ini_X8 cd_X8_pickedIn ⟨rfl, na_X8_pickedIn⟩ jT_blind (hW.recv hK (show jV M 8 0 from rfl) rfl) (jT_at hX hT9 hRf hW va_S.rf) hl.1 (Nat.le_of_ble_eq_true rfl) ⟨Nat.le_of_ble_eq_true rfl, Nat.le_of_ble_eq_true rfl⟩ ⟨by show 0 + 1 ≤ 1; omega, by show 0 + 6 ≤ 6; omega⟩ rfl dL_pickedIn_4) va_S.rf (fun q h => Or.inl h) hC.2.2.2.1 [] ⟨0, 9, 12, 36⟩ [] htab (fun z hz => nomatch hz) (by decide) (by decide) (hC.2.2.2.2 _ cl_L_36) (va_Nw.use rfl (hT9.2.1 (xIOE, xIOE) (by decide))) (fun q H locs hz hk hS => ?_)
    have hW := hW.kept (H1 := H) (fun q hq _ => hk q hq)
    have hO : oC G oa v H := va_at.kept hO (hk _ (va_at.lt hO))
    refine lv_astore_n (lv' := [(3, .ref q), (0, .ref (ja 8 0)), (1, .int x), (2, .ref oa)]) hx hb dL_pickedIn_12 rfl hl (by decide) rfl (fun ls hl => ?_)
    refine lv_iconst (v := 1) hx hb dL_pickedIn_13 (by decide) ?_
    subst hQ
    exact rt_qi v hx hb hr hlk hS ⟨hT.symm, fun z => by rw [hT] at z; exact absurd z (by decide)⟩ (fun t9 ht9 _ => by show WJ G d0 Rf _ _ _ t9.heap ∧ oC G oa _ t9.heap; rw [ht9]; exact ⟨hW, hO⟩) (by show 0 + 1 ≤ 1; omega) (by show 0 + 6 ≤ 6; omega) dL_pickedIn_14
set_option maxHeartbeats 4000000 in
set_option maxRecDepth 100000 in
theorem lL_stock (l : Launch) (G : gG) (d0 mi : Nat) (Rf : Nat → Prop) (ja : Nat → Nat → Nat) (M : MS) (E : ES) (oa : Nat) (v : Int64) (x : Int32) (B : Nat) (hI : INV B M) (hCE : CE M E) (hRo : Rf oa) (hl9 : l.stackTraces = false) : Met l yL_stock (Cond.codeWith yL_stock cL_stock 4 (some .int) [(0, 9, 12, 13)] :: BIG) (rmL 8 1 6) (va_Pc [.ref (ja 8 0), .int x, .ref oa] (lJ G d0 mi Rf ja M E oa v)) (va_Qi (S := Int64) (fun r u => r = gT x ∧ (gT x = 0 → u = (stkR M x).toInt64)) (fun u t => WJ G d0 Rf ja M E t.heap ∧ oC G oa u t.heap) (lA Rf oa)) 1 6 (lA Rf oa) := by
  refine st_H (own := RL) (by decide +kernel) rfl (Nat.le_of_ble_eq_true rfl) ?_
  intro p e s m below meth c ls args Q hQ hC hr hlk htab hl hP
  obtain ⟨⟨⟨hW, hX, hRf⟩, hT9⟩, hO, hN⟩ := hP
  have hK := hX.1
  have hx := hC.1
  have hb := hC.2.1
  have hl : lv_has ls 4 [(0, .ref (ja 8 0)), (1, .int x), (2, .ref oa)] := hl
  have h16 := hW.cnt.T16
  have h6 := hW.cnt.R6
  have h10 := hW.cnt.O10
  have h15 : nP M ≤ 1500 := Nat.le_trans (Nat.le_add_right _ _) hI.p.2.1
  refine lv_aload_n hx hb dL_stock_0 rfl (lv_at hl 2 rfl) ?_
  refine lv_iconst (v := 0) hx hb dL_stock_1 (by decide) ?_
  refine lv_aload_n hx hb dL_stock_2 rfl (lv_at hl 0 rfl) ?_
  refine lv_iload_n hx hb dL_stock_3 rfl (lv_at hl 1 rfl) ?_
  by_cases h : inB x 6 = true
  · have hT : gT x = 0 := if_pos h
    obtain ⟨j, hj, rfl⟩ := inB_of (n := 6) (by omega) h
    refine cl_pi (x := stkGo M (nI j) (nT M)) (run_V hC (cJ_X8_stock l G d0 mi Rf ja M E j hj) (As := [.int (nI j)]) (rest := [.int 0, .ref oa]) rfl rfl ml_L_90 im_X8_stock se_X8_stock ini_X8 cd_X8_stock ⟨rfl, na_X8_stock⟩ jB_blind (hW.recv hK (show jV M 8 0 from rfl) rfl) (jB_at hX hRf hW va_S.rf) hl.1 (Nat.le_of_ble_eq_true rfl) ⟨Nat.le_of_ble_eq_true rfl, Nat.le_of_ble_eq_true rfl⟩ ⟨by show 0 + 0 ≤ 1; omega, by show 0 + 0 ≤ 6; omega⟩ rfl dL_stock_4) rfl ?_
    refine lv_i2l hx hb dL_stock_7 rfl ?_
    refine r2_lst hC hK (A := lA Rf oa) hO va_S.rf (Or.inr rfl) dL_stock_8 (fun H locs hO hz hoq hS => ?_)
    have hW := hW.kept (H1 := H) (fun q hq hnR => hoq q (fun e9 => hnR (by rw [e9]; exact hRo)))
    refine lv_goto (tgt := 15) hx hb dL_stock_9 (by decide) ?_
    refine lv_iconst (v := 0) hx hb dL_stock_15 (by decide) ?_
    subst hQ
    exact rt_qi ((stkGo M (nI j) (nT M)).toInt64) hx hb hr hlk hS ⟨hT.symm, fun _ => congrArg Int32.toInt64 (by unfold stkR; rw [if_pos hT])⟩ (fun t9 ht9 _ => by show WJ G d0 Rf _ _ _ t9.heap ∧ oC G oa _ t9.heap; rw [ht9]; exact ⟨hW, hO⟩) (by show 0 ≤ 1; omega) (by show 0 ≤ 6; omega) dL_stock_16
  · have hT : gT x = 1 := if_neg h
    have hno : inB x 6 = false := by simpa using h
    refine jl_catch (A0 := lA Rf oa) (run_VX hC (cJ_X8_stockX l G d0 mi Rf ja M E x hno hl9) (As := [.int x]) (rest := [.int 0, .ref oa]) rfl rfl ml_L_90 im_X8_stock se_X8_stock ini_X8 cd_X8_stock ⟨rfl, na_X8_stock⟩ jT_blind (hW.recv hK (show jV M 8 0 from rfl) rfl) (jT_at hX hT9 hRf hW va_S.rf) hl.1 (Nat.le_of_ble_eq_true rfl) ⟨Nat.le_of_ble_eq_true rfl, Nat.le_of_ble_eq_true rfl⟩ ⟨by show 0 + 1 ≤ 1; omega, by show 0 + 6 ≤ 6; omega⟩ rfl dL_stock_4) va_S.rf (fun q h => Or.inl h) hC.2.2.2.1 [] ⟨0, 9, 12, 13⟩ [] htab (fun z hz => nomatch hz) (by decide) (by decide) (hC.2.2.2.2 _ cl_L_13) (va_Nw.use rfl (hT9.2.1 (xIAE, xIAE) (by decide))) (fun q H locs hz hk hS => ?_)
    have hW := hW.kept (H1 := H) (fun q hq _ => hk q hq)
    have hO : oC G oa v H := va_at.kept hO (hk _ (va_at.lt hO))
    refine lv_astore_n (lv' := [(3, .ref q), (0, .ref (ja 8 0)), (1, .int x), (2, .ref oa)]) hx hb dL_stock_12 rfl hl (by decide) rfl (fun ls hl => ?_)
    refine lv_iconst (v := 1) hx hb dL_stock_13 (by decide) ?_
    subst hQ
    exact rt_qi v hx hb hr hlk hS ⟨hT.symm, fun z => by rw [hT] at z; exact absurd z (by decide)⟩ (fun t9 ht9 _ => by show WJ G d0 Rf _ _ _ t9.heap ∧ oC G oa _ t9.heap; rw [ht9]; exact ⟨hW, hO⟩) (by show 0 + 1 ≤ 1; omega) (by show 0 + 6 ≤ 6; omega) dL_stock_14
set_option maxHeartbeats 4000000 in
set_option maxRecDepth 100000 in
theorem lL_stockByPicks (l : Launch) (G : gG) (d0 mi : Nat) (Rf : Nat → Prop) (ja : Nat → Nat → Nat) (M : MS) (E : ES) (oa : Nat) (v : Int64) (x : Int32) (B : Nat) (hI : INV B M) (hCE : CE M E) (hRo : Rf oa) (hl9 : l.stackTraces = false) : Met l yL_stockByPicks (Cond.codeWith yL_stockByPicks cL_stockByPicks 4 (some .int) [(0, 9, 12, 13)] :: BIG) (rmL 8 1 6) (va_Pc [.ref (ja 8 0), .int x, .ref oa] (lJ G d0 mi Rf ja M E oa v)) (va_Qi (S := Int64) (fun r u => r = gT x ∧ (gT x = 0 → u = (sbpR M x).toInt64)) (fun u t => WJ G d0 Rf ja M E t.heap ∧ oC G oa u t.heap) (lA Rf oa)) 1 6 (lA Rf oa) := by
  refine st_H (own := RL) (by decide +kernel) rfl (Nat.le_of_ble_eq_true rfl) ?_
  intro p e s m below meth c ls args Q hQ hC hr hlk htab hl hP
  obtain ⟨⟨⟨hW, hX, hRf⟩, hT9⟩, hO, hN⟩ := hP
  have hK := hX.1
  have hx := hC.1
  have hb := hC.2.1
  have hl : lv_has ls 4 [(0, .ref (ja 8 0)), (1, .int x), (2, .ref oa)] := hl
  have h16 := hW.cnt.T16
  have h6 := hW.cnt.R6
  have h10 := hW.cnt.O10
  have h15 : nP M ≤ 1500 := Nat.le_trans (Nat.le_add_right _ _) hI.p.2.1
  refine lv_aload_n hx hb dL_stockByPicks_0 rfl (lv_at hl 2 rfl) ?_
  refine lv_iconst (v := 0) hx hb dL_stockByPicks_1 (by decide) ?_
  refine lv_aload_n hx hb dL_stockByPicks_2 rfl (lv_at hl 0 rfl) ?_
  refine lv_iload_n hx hb dL_stockByPicks_3 rfl (lv_at hl 1 rfl) ?_
  by_cases h : inB x 6 = true
  · have hT : gT x = 0 := if_pos h
    obtain ⟨j, hj, rfl⟩ := inB_of (n := 6) (by omega) h
    refine cl_pi (x := M 32 j - M 33 j) (run_V hC (cJ_X8_stockByPicks l G d0 mi Rf ja M E j hj h15 hCE.2.2.2) (As := [.int (nI j)]) (rest := [.int 0, .ref oa]) rfl rfl ml_L_93 im_X8_stockByPicks se_X8_stockByPicks ini_X8 cd_X8_stockByPicks ⟨rfl, na_X8_stockByPicks⟩ jB_blind (hW.recv hK (show jV M 8 0 from rfl) rfl) (jB_at hX hRf hW va_S.rf) hl.1 (Nat.le_of_ble_eq_true rfl) ⟨Nat.le_of_ble_eq_true rfl, Nat.le_of_ble_eq_true rfl⟩ ⟨by show 0 + 0 ≤ 1; omega, by show 0 + 0 ≤ 6; omega⟩ rfl dL_stockByPicks_4) rfl ?_
    refine lv_i2l hx hb dL_stockByPicks_7 rfl ?_
    refine r2_lst hC hK (A := lA Rf oa) hO va_S.rf (Or.inr rfl) dL_stockByPicks_8 (fun H locs hO hz hoq hS => ?_)
    have hW := hW.kept (H1 := H) (fun q hq hnR => hoq q (fun e9 => hnR (by rw [e9]; exact hRo)))
    refine lv_goto (tgt := 15) hx hb dL_stockByPicks_9 (by decide) ?_
    refine lv_iconst (v := 0) hx hb dL_stockByPicks_15 (by decide) ?_
    subst hQ
    exact rt_qi ((M 32 j - M 33 j).toInt64) hx hb hr hlk hS ⟨hT.symm, fun _ => congrArg Int32.toInt64 (by unfold sbpR; rw [if_pos hT, ix_nI (by omega)])⟩ (fun t9 ht9 _ => by show WJ G d0 Rf _ _ _ t9.heap ∧ oC G oa _ t9.heap; rw [ht9]; exact ⟨hW, hO⟩) (by show 0 ≤ 1; omega) (by show 0 ≤ 6; omega) dL_stockByPicks_16
  · have hT : gT x = 1 := if_neg h
    have hno : inB x 6 = false := by simpa using h
    refine jl_catch (A0 := lA Rf oa) (run_VX hC (cJ_X8_stockByPicksX l G d0 mi Rf ja M E x hno hl9) (As := [.int x]) (rest := [.int 0, .ref oa]) rfl rfl ml_L_93 im_X8_stockByPicks se_X8_stockByPicks ini_X8 cd_X8_stockByPicks ⟨rfl, na_X8_stockByPicks⟩ jT_blind (hW.recv hK (show jV M 8 0 from rfl) rfl) (jT_at hX hT9 hRf hW va_S.rf) hl.1 (Nat.le_of_ble_eq_true rfl) ⟨Nat.le_of_ble_eq_true rfl, Nat.le_of_ble_eq_true rfl⟩ ⟨by show 0 + 1 ≤ 1; omega, by show 0 + 6 ≤ 6; omega⟩ rfl dL_stockByPicks_4) va_S.rf (fun q h => Or.inl h) hC.2.2.2.1 [] ⟨0, 9, 12, 13⟩ [] htab (fun z hz => nomatch hz) (by decide) (by decide) (hC.2.2.2.2 _ cl_L_13) (va_Nw.use rfl (hT9.2.1 (xIAE, xIAE) (by decide))) (fun q H locs hz hk hS => ?_)
    have hW := hW.kept (H1 := H) (fun q hq _ => hk q hq)
    have hO : oC G oa v H := va_at.kept hO (hk _ (va_at.lt hO))
    refine lv_astore_n (lv' := [(3, .ref q), (0, .ref (ja 8 0)), (1, .int x), (2, .ref oa)]) hx hb dL_stockByPicks_12 rfl hl (by decide) rfl (fun ls hl => ?_)
    refine lv_iconst (v := 1) hx hb dL_stockByPicks_13 (by decide) ?_
    subst hQ
    exact rt_qi v hx hb hr hlk hS ⟨hT.symm, fun z => by rw [hT] at z; exact absurd z (by decide)⟩ (fun t9 ht9 _ => by show WJ G d0 Rf _ _ _ t9.heap ∧ oC G oa _ t9.heap; rw [ht9]; exact ⟨hW, hO⟩) (by show 0 + 1 ≤ 1; omega) (by show 0 + 6 ≤ 6; omega) dL_stockByPicks_14
set_option maxHeartbeats 4000000 in
set_option maxRecDepth 100000 in
theorem lL_left (l : Launch) (G : gG) (d0 mi : Nat) (Rf : Nat → Prop) (ja : Nat → Nat → Nat) (M : MS) (E : ES) (oa : Nat) (v : Int64) (x : Int32) (y : Int32) (B : Nat) (hI : INV B M) (hCE : CE M E) (hRo : Rf oa) (hl9 : l.stackTraces = false) : Met l yL_left (Cond.codeWith yL_left cL_left 5 (some .int) [(0, 10, 13, 36)] :: BIG) (rmL 8 1 6) (va_Pc [.ref (ja 8 0), .int x, .int y, .ref oa] (lJ G d0 mi Rf ja M E oa v)) (va_Qi (S := Int64) (fun r u => r = lnT M x y ∧ (lnT M x y = 0 → u = (leftR M x y).toInt64)) (fun u t => WJ G d0 Rf ja M E t.heap ∧ oC G oa u t.heap) (lA Rf oa)) 1 6 (lA Rf oa) := by
  refine st_H (own := RL) (by decide +kernel) rfl (Nat.le_of_ble_eq_true rfl) ?_
  intro p e s m below meth c ls args Q hQ hC hr hlk htab hl hP
  obtain ⟨⟨⟨hW, hX, hRf⟩, hT9⟩, hO, hN⟩ := hP
  have hK := hX.1
  have hx := hC.1
  have hb := hC.2.1
  have hl : lv_has ls 5 [(0, .ref (ja 8 0)), (1, .int x), (2, .int y), (3, .ref oa)] := hl
  have h16 := hW.cnt.T16
  have h6 := hW.cnt.R6
  have h10 := hW.cnt.O10
  have h15 : nP M ≤ 1500 := Nat.le_trans (Nat.le_add_right _ _) hI.p.2.1
  refine lv_aload_n hx hb dL_left_0 rfl (lv_at hl 3 rfl) ?_
  refine lv_iconst (v := 0) hx hb dL_left_1 (by decide) ?_
  refine lv_aload_n hx hb dL_left_2 rfl (lv_at hl 0 rfl) ?_
  refine lv_iload_n hx hb dL_left_3 rfl (lv_at hl 1 rfl) ?_
  refine lv_iload_n hx hb dL_left_4 rfl (lv_at hl 2 rfl) ?_
  by_cases h : lnB M x y = true
  · have hT : lnT M x y = 0 := if_pos h
    obtain ⟨jo, jl, hjo, hjl, rfl, rfl⟩ := lnB_of hW.cnt h
    have hL3 := hW.cnt.L3 (o := jo) (by omega)
    refine cl_pi (x := M 13 (3 * jo + jl)) (run_V hC (cJ_X8_left l G d0 mi Rf ja M E jo jl hjo hjl) (As := [.int (nI jo), .int (nI jl)]) (rest := [.int 0, .ref oa]) rfl rfl ml_L_51 im_X8_left se_X8_left ini_X8 cd_X8_left ⟨rfl, na_X8_left⟩ jB_blind (hW.recv hK (show jV M 8 0 from rfl) rfl) (jB_at hX hRf hW va_S.rf) hl.1 (Nat.le_of_ble_eq_true rfl) ⟨Nat.le_of_ble_eq_true rfl, Nat.le_of_ble_eq_true rfl⟩ ⟨by show 0 + 0 ≤ 1; omega, by show 0 + 0 ≤ 6; omega⟩ rfl dL_left_5) rfl ?_
    refine lv_i2l hx hb dL_left_8 rfl ?_
    refine r2_lst hC hK (A := lA Rf oa) hO va_S.rf (Or.inr rfl) dL_left_9 (fun H locs hO hz hoq hS => ?_)
    have hW := hW.kept (H1 := H) (fun q hq hnR => hoq q (fun e9 => hnR (by rw [e9]; exact hRo)))
    refine lv_goto (tgt := 17) hx hb dL_left_10 (by decide) ?_
    refine lv_iconst (v := 0) hx hb dL_left_17 (by decide) ?_
    subst hQ
    exact rt_qi ((M 13 (3 * jo + jl)).toInt64) hx hb hr hlk hS ⟨hT.symm, fun _ => congrArg Int32.toInt64 (by unfold leftR; rw [if_pos hT, ix_nI (by omega), ix_nI (by omega)])⟩ (fun t9 ht9 _ => by show WJ G d0 Rf _ _ _ t9.heap ∧ oC G oa _ t9.heap; rw [ht9]; exact ⟨hW, hO⟩) (by show 0 ≤ 1; omega) (by show 0 ≤ 6; omega) dL_left_18
  · have hT : lnT M x y = 1 := if_neg h
    have hno : lnB M x y = false := by simpa using h
    refine jl_catch (A0 := lA Rf oa) (run_VX hC (cJ_X8_leftX l G d0 mi Rf ja M E x y hno hl9) (As := [.int x, .int y]) (rest := [.int 0, .ref oa]) rfl rfl ml_L_51 im_X8_left se_X8_left ini_X8 cd_X8_left ⟨rfl, na_X8_left⟩ jT_blind (hW.recv hK (show jV M 8 0 from rfl) rfl) (jT_at hX hT9 hRf hW va_S.rf) hl.1 (Nat.le_of_ble_eq_true rfl) ⟨Nat.le_of_ble_eq_true rfl, Nat.le_of_ble_eq_true rfl⟩ ⟨by show 0 + 1 ≤ 1; omega, by show 0 + 6 ≤ 6; omega⟩ rfl dL_left_5) va_S.rf (fun q h => Or.inl h) hC.2.2.2.1 [] ⟨0, 10, 13, 36⟩ [] htab (fun z hz => nomatch hz) (by decide) (by decide) (hC.2.2.2.2 _ cl_L_36) (va_Nw.use rfl (hT9.2.1 (xIOE, xIOE) (by decide))) (fun q H locs hz hk hS => ?_)
    have hW := hW.kept (H1 := H) (fun q hq _ => hk q hq)
    have hO : oC G oa v H := va_at.kept hO (hk _ (va_at.lt hO))
    refine lv_astore (lv' := [(4, .ref q), (0, .ref (ja 8 0)), (1, .int x), (2, .int y), (3, .ref oa)]) hx hb dL_left_13 hl (by decide) rfl (fun ls hl => ?_)
    refine lv_iconst (v := 1) hx hb dL_left_15 (by decide) ?_
    subst hQ
    exact rt_qi v hx hb hr hlk hS ⟨hT.symm, fun z => by rw [hT] at z; exact absurd z (by decide)⟩ (fun t9 ht9 _ => by show WJ G d0 Rf _ _ _ t9.heap ∧ oC G oa _ t9.heap; rw [ht9]; exact ⟨hW, hO⟩) (by show 0 + 1 ≤ 1; omega) (by show 0 + 6 ≤ 6; omega) dL_left_16
set_option maxHeartbeats 4000000 in
set_option maxRecDepth 100000 in
theorem lL_claimant (l : Launch) (G : gG) (d0 mi : Nat) (Rf : Nat → Prop) (ja : Nat → Nat → Nat) (M : MS) (E : ES) (oa : Nat) (v : Int64) (x : Int32) (y : Int32) (B : Nat) (hI : INV B M) (hCE : CE M E) (hRo : Rf oa) (hl9 : l.stackTraces = false) : Met l yL_claimant (Cond.codeWith yL_claimant cL_claimant 5 (some .int) [(0, 10, 13, 36)] :: BIG) (rmL 8 1 6) (va_Pc [.ref (ja 8 0), .int x, .int y, .ref oa] (lJ G d0 mi Rf ja M E oa v)) (va_Qi (S := Int64) (fun r u => r = lnT M x y ∧ (lnT M x y = 0 → u = (clnR M x y).toInt64)) (fun u t => WJ G d0 Rf ja M E t.heap ∧ oC G oa u t.heap) (lA Rf oa)) 1 6 (lA Rf oa) := by
  refine st_H (own := RL) (by decide +kernel) rfl (Nat.le_of_ble_eq_true rfl) ?_
  intro p e s m below meth c ls args Q hQ hC hr hlk htab hl hP
  obtain ⟨⟨⟨hW, hX, hRf⟩, hT9⟩, hO, hN⟩ := hP
  have hK := hX.1
  have hx := hC.1
  have hb := hC.2.1
  have hl : lv_has ls 5 [(0, .ref (ja 8 0)), (1, .int x), (2, .int y), (3, .ref oa)] := hl
  have h16 := hW.cnt.T16
  have h6 := hW.cnt.R6
  have h10 := hW.cnt.O10
  have h15 : nP M ≤ 1500 := Nat.le_trans (Nat.le_add_right _ _) hI.p.2.1
  refine lv_aload_n hx hb dL_claimant_0 rfl (lv_at hl 3 rfl) ?_
  refine lv_iconst (v := 0) hx hb dL_claimant_1 (by decide) ?_
  refine lv_aload_n hx hb dL_claimant_2 rfl (lv_at hl 0 rfl) ?_
  refine lv_iload_n hx hb dL_claimant_3 rfl (lv_at hl 1 rfl) ?_
  refine lv_iload_n hx hb dL_claimant_4 rfl (lv_at hl 2 rfl) ?_
  by_cases h : lnB M x y = true
  · have hT : lnT M x y = 0 := if_pos h
    obtain ⟨jo, jl, hjo, hjl, rfl, rfl⟩ := lnB_of hW.cnt h
    have hL3 := hW.cnt.L3 (o := jo) (by omega)
    refine cl_pi (x := M 14 (3 * jo + jl)) (run_V hC (cJ_X8_claimant l G d0 mi Rf ja M E jo jl hjo hjl) (As := [.int (nI jo), .int (nI jl)]) (rest := [.int 0, .ref oa]) rfl rfl ml_L_54 im_X8_claimant se_X8_claimant ini_X8 cd_X8_claimant ⟨rfl, na_X8_claimant⟩ jB_blind (hW.recv hK (show jV M 8 0 from rfl) rfl) (jB_at hX hRf hW va_S.rf) hl.1 (Nat.le_of_ble_eq_true rfl) ⟨Nat.le_of_ble_eq_true rfl, Nat.le_of_ble_eq_true rfl⟩ ⟨by show 0 + 0 ≤ 1; omega, by show 0 + 0 ≤ 6; omega⟩ rfl dL_claimant_5) rfl ?_
    refine lv_i2l hx hb dL_claimant_8 rfl ?_
    refine r2_lst hC hK (A := lA Rf oa) hO va_S.rf (Or.inr rfl) dL_claimant_9 (fun H locs hO hz hoq hS => ?_)
    have hW := hW.kept (H1 := H) (fun q hq hnR => hoq q (fun e9 => hnR (by rw [e9]; exact hRo)))
    refine lv_goto (tgt := 17) hx hb dL_claimant_10 (by decide) ?_
    refine lv_iconst (v := 0) hx hb dL_claimant_17 (by decide) ?_
    subst hQ
    exact rt_qi ((M 14 (3 * jo + jl)).toInt64) hx hb hr hlk hS ⟨hT.symm, fun _ => congrArg Int32.toInt64 (by unfold clnR; rw [if_pos hT, ix_nI (by omega), ix_nI (by omega)])⟩ (fun t9 ht9 _ => by show WJ G d0 Rf _ _ _ t9.heap ∧ oC G oa _ t9.heap; rw [ht9]; exact ⟨hW, hO⟩) (by show 0 ≤ 1; omega) (by show 0 ≤ 6; omega) dL_claimant_18
  · have hT : lnT M x y = 1 := if_neg h
    have hno : lnB M x y = false := by simpa using h
    refine jl_catch (A0 := lA Rf oa) (run_VX hC (cJ_X8_claimantX l G d0 mi Rf ja M E x y hno hl9) (As := [.int x, .int y]) (rest := [.int 0, .ref oa]) rfl rfl ml_L_54 im_X8_claimant se_X8_claimant ini_X8 cd_X8_claimant ⟨rfl, na_X8_claimant⟩ jT_blind (hW.recv hK (show jV M 8 0 from rfl) rfl) (jT_at hX hT9 hRf hW va_S.rf) hl.1 (Nat.le_of_ble_eq_true rfl) ⟨Nat.le_of_ble_eq_true rfl, Nat.le_of_ble_eq_true rfl⟩ ⟨by show 0 + 1 ≤ 1; omega, by show 0 + 6 ≤ 6; omega⟩ rfl dL_claimant_5) va_S.rf (fun q h => Or.inl h) hC.2.2.2.1 [] ⟨0, 10, 13, 36⟩ [] htab (fun z hz => nomatch hz) (by decide) (by decide) (hC.2.2.2.2 _ cl_L_36) (va_Nw.use rfl (hT9.2.1 (xIOE, xIOE) (by decide))) (fun q H locs hz hk hS => ?_)
    have hW := hW.kept (H1 := H) (fun q hq _ => hk q hq)
    have hO : oC G oa v H := va_at.kept hO (hk _ (va_at.lt hO))
    refine lv_astore (lv' := [(4, .ref q), (0, .ref (ja 8 0)), (1, .int x), (2, .int y), (3, .ref oa)]) hx hb dL_claimant_13 hl (by decide) rfl (fun ls hl => ?_)
    refine lv_iconst (v := 1) hx hb dL_claimant_15 (by decide) ?_
    subst hQ
    exact rt_qi v hx hb hr hlk hS ⟨hT.symm, fun z => by rw [hT] at z; exact absurd z (by decide)⟩ (fun t9 ht9 _ => by show WJ G d0 Rf _ _ _ t9.heap ∧ oC G oa _ t9.heap; rw [ht9]; exact ⟨hW, hO⟩) (by show 0 + 1 ≤ 1; omega) (by show 0 + 6 ≤ 6; omega) dL_claimant_16
set_option maxHeartbeats 4000000 in
set_option maxRecDepth 100000 in
theorem lL_distance (l : Launch) (G : gG) (d0 mi : Nat) (Rf : Nat → Prop) (ja : Nat → Nat → Nat) (M : MS) (E : ES) (oa : Nat) (v : Int64) (x : Int32) (y : Int32) (B : Nat) (hI : INV B M) (hCE : CE M E) (hRo : Rf oa) (hl9 : l.stackTraces = false) : Met l yL_distance (Cond.codeWith yL_distance cL_distance 5 (some .int) [(0, 10, 13, 13)] :: BIG) (rmL 8 1 6) (va_Pc [.ref (ja 8 0), .int x, .int y, .ref oa] (lJ G d0 mi Rf ja M E oa v)) (va_Qi (S := Int64) (fun r u => r = distT x y ∧ (distT x y = 0 → u = (distR M x y).toInt64)) (fun u t => WJ G d0 Rf ja M E t.heap ∧ oC G oa u t.heap) (lA Rf oa)) 1 6 (lA Rf oa) := by
  refine st_H (own := RL) (by decide +kernel) rfl (Nat.le_of_ble_eq_true rfl) ?_
  intro p e s m below meth c ls args Q hQ hC hr hlk htab hl hP
  obtain ⟨⟨⟨hW, hX, hRf⟩, hT9⟩, hO, hN⟩ := hP
  have hK := hX.1
  have hx := hC.1
  have hb := hC.2.1
  have hl : lv_has ls 5 [(0, .ref (ja 8 0)), (1, .int x), (2, .int y), (3, .ref oa)] := hl
  have h16 := hW.cnt.T16
  have h6 := hW.cnt.R6
  have h10 := hW.cnt.O10
  have h15 : nP M ≤ 1500 := Nat.le_trans (Nat.le_add_right _ _) hI.p.2.1
  refine lv_aload_n hx hb dL_distance_0 rfl (lv_at hl 3 rfl) ?_
  refine lv_iconst (v := 0) hx hb dL_distance_1 (by decide) ?_
  refine lv_aload_n hx hb dL_distance_2 rfl (lv_at hl 0 rfl) ?_
  refine lv_iload_n hx hb dL_distance_3 rfl (lv_at hl 1 rfl) ?_
  refine lv_iload_n hx hb dL_distance_4 rfl (lv_at hl 2 rfl) ?_
  by_cases h : inB x 64 = true
  · by_cases h2 : inB y 64 = true
    · have hT : distT x y = 0 := if_pos ⟨h, h2⟩
      obtain ⟨jo, hjo, rfl⟩ := inB_of (n := 64) (by omega) h
      obtain ⟨jl, hjl, rfl⟩ := inB_of (n := 64) (by omega) h2
      refine cl_pi (x := oI (dGM M jo jl)) (run_V hC (cJ_X8_distance l G d0 mi Rf ja M E jo jl (hCE.hD hI) hjo hjl) (As := [.int (nI jo), .int (nI jl)]) (rest := [.int 0, .ref oa]) rfl rfl ml_L_21 im_X8_distance se_X8_distance ini_X8 cd_X8_distance ⟨rfl, na_X8_distance⟩ jB_blind (hW.recv hK (show jV M 8 0 from rfl) rfl) (jB_at hX hRf hW va_S.rf) hl.1 (Nat.le_of_ble_eq_true rfl) ⟨Nat.le_of_ble_eq_true rfl, Nat.le_of_ble_eq_true rfl⟩ ⟨by show 0 + 0 ≤ 1; omega, by show 0 + 0 ≤ 6; omega⟩ rfl dL_distance_5) rfl ?_
      refine lv_i2l hx hb dL_distance_8 rfl ?_
      refine r2_lst hC hK (A := lA Rf oa) hO va_S.rf (Or.inr rfl) dL_distance_9 (fun H locs hO hz hoq hS => ?_)
      have hW := hW.kept (H1 := H) (fun q hq hnR => hoq q (fun e9 => hnR (by rw [e9]; exact hRo)))
      refine lv_goto (tgt := 17) hx hb dL_distance_10 (by decide) ?_
      refine lv_iconst (v := 0) hx hb dL_distance_17 (by decide) ?_
      subst hQ
      exact rt_qi ((oI (dGM M jo jl)).toInt64) hx hb hr hlk hS ⟨hT.symm, fun _ => congrArg Int32.toInt64 (by unfold distR; rw [if_pos hT, ix_nI (by omega), ix_nI (by omega)])⟩ (fun t9 ht9 _ => by show WJ G d0 Rf _ _ _ t9.heap ∧ oC G oa _ t9.heap; rw [ht9]; exact ⟨hW, hO⟩) (by show 0 ≤ 1; omega) (by show 0 ≤ 6; omega) dL_distance_18
    · have hT : distT x y = 1 := if_neg (fun z => h2 z.2)
      have hno : inB y 64 = false := by simpa using h2
      obtain ⟨jo, hjo, rfl⟩ := inB_of (n := 64) (by omega) h
      refine jl_catch (A0 := lA Rf oa) (run_VX hC (cJ_X8_distanceX2 l G d0 mi Rf ja M E jo y hjo hno hl9) (As := [.int (nI jo), .int y]) (rest := [.int 0, .ref oa]) rfl rfl ml_L_21 im_X8_distance se_X8_distance ini_X8 cd_X8_distance ⟨rfl, na_X8_distance⟩ jT_blind (hW.recv hK (show jV M 8 0 from rfl) rfl) (jT_at hX hT9 hRf hW va_S.rf) hl.1 (Nat.le_of_ble_eq_true rfl) ⟨Nat.le_of_ble_eq_true rfl, Nat.le_of_ble_eq_true rfl⟩ ⟨by show 0 + 1 ≤ 1; omega, by show 0 + 6 ≤ 6; omega⟩ rfl dL_distance_5) va_S.rf (fun q h => Or.inl h) hC.2.2.2.1 [] ⟨0, 10, 13, 13⟩ [] htab (fun z hz => nomatch hz) (by decide) (by decide) (hC.2.2.2.2 _ cl_L_13) (va_Nw.use rfl (hT9.2.1 (xIAE, xIAE) (by decide))) (fun q H locs hz hk hS => ?_)
      have hW := hW.kept (H1 := H) (fun q hq _ => hk q hq)
      have hO : oC G oa v H := va_at.kept hO (hk _ (va_at.lt hO))
      refine lv_astore (lv' := [(4, .ref q), (0, .ref (ja 8 0)), (1, .int (nI jo)), (2, .int y), (3, .ref oa)]) hx hb dL_distance_13 hl (by decide) rfl (fun ls hl => ?_)
      refine lv_iconst (v := 1) hx hb dL_distance_15 (by decide) ?_
      subst hQ
      exact rt_qi v hx hb hr hlk hS ⟨hT.symm, fun z => by rw [hT] at z; exact absurd z (by decide)⟩ (fun t9 ht9 _ => by show WJ G d0 Rf _ _ _ t9.heap ∧ oC G oa _ t9.heap; rw [ht9]; exact ⟨hW, hO⟩) (by show 0 + 1 ≤ 1; omega) (by show 0 + 6 ≤ 6; omega) dL_distance_16
  · have hT : distT x y = 1 := if_neg (fun z => h z.1)
    have hno : inB x 64 = false := by simpa using h
    refine jl_catch (A0 := lA Rf oa) (run_VX hC (cJ_X8_distanceX1 l G d0 mi Rf ja M E x y hno hl9) (As := [.int x, .int y]) (rest := [.int 0, .ref oa]) rfl rfl ml_L_21 im_X8_distance se_X8_distance ini_X8 cd_X8_distance ⟨rfl, na_X8_distance⟩ jT_blind (hW.recv hK (show jV M 8 0 from rfl) rfl) (jT_at hX hT9 hRf hW va_S.rf) hl.1 (Nat.le_of_ble_eq_true rfl) ⟨Nat.le_of_ble_eq_true rfl, Nat.le_of_ble_eq_true rfl⟩ ⟨by show 0 + 1 ≤ 1; omega, by show 0 + 6 ≤ 6; omega⟩ rfl dL_distance_5) va_S.rf (fun q h => Or.inl h) hC.2.2.2.1 [] ⟨0, 10, 13, 13⟩ [] htab (fun z hz => nomatch hz) (by decide) (by decide) (hC.2.2.2.2 _ cl_L_13) (va_Nw.use rfl (hT9.2.1 (xIAE, xIAE) (by decide))) (fun q H locs hz hk hS => ?_)
    have hW := hW.kept (H1 := H) (fun q hq _ => hk q hq)
    have hO : oC G oa v H := va_at.kept hO (hk _ (va_at.lt hO))
    refine lv_astore (lv' := [(4, .ref q), (0, .ref (ja 8 0)), (1, .int x), (2, .int y), (3, .ref oa)]) hx hb dL_distance_13 hl (by decide) rfl (fun ls hl => ?_)
    refine lv_iconst (v := 1) hx hb dL_distance_15 (by decide) ?_
    subst hQ
    exact rt_qi v hx hb hr hlk hS ⟨hT.symm, fun z => by rw [hT] at z; exact absurd z (by decide)⟩ (fun t9 ht9 _ => by show WJ G d0 Rf _ _ _ t9.heap ∧ oC G oa _ t9.heap; rw [ht9]; exact ⟨hW, hO⟩) (by show 0 + 1 ≤ 1; omega) (by show 0 + 6 ≤ 6; omega) dL_distance_16
