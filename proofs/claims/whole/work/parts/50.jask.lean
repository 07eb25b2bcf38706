/-! THE CLASS'S METHODS THAT ASK -/
theorem WJ.pk_t {G : gG} {d0 : Nat} {Rf : Nat → Prop} {ja : Nat → Nat → Nat} {M : MS} {E : ES} {H : Heap} (h : WJ G d0 Rf ja M E H) {i : Nat} (hi : i < nP M) : ix (M 35 i) < nT M ∧ M 35 i = nI (ix (M 35 i)) := by
  obtain ⟨⟨t, ht, a⟩, -⟩ := h.2.2.1.2.2.1 i hi
  have := h.cnt.T16
  rw [a, ix_nI (by omega)]; exact ⟨ht, rfl⟩
theorem WJ.pk_o {G : gG} {d0 : Nat} {Rf : Nat → Prop} {ja : Nat → Nat → Nat} {M : MS} {E : ES} {H : Heap} (h : WJ G d0 Rf ja M E H) {i : Nat} (hi : i < nP M) : ix (M 36 i) < nO M ∧ M 36 i = nI (ix (M 36 i)) := by
  obtain ⟨-, t, ht, a⟩ := h.2.2.1.2.2.1 i hi
  have := h.cnt.O10
  rw [a, ix_nI (by omega)]; exact ⟨ht, rfl⟩
theorem stkGo_s (M : MS) (g : Int32) (t : Nat) : stkGo M g (t + 1) = stkGo M g t + (if M 8 t = g then M 9 t else 0) := rfl
theorem sI_s (f : Nat → Int32) (n : Nat) : sI f (n + 1) = sI f n + f n := rfl
theorem sub_add1 (a b : Int32) : a - b + -1 = a - (b + 1) := by simp [Int32.sub_eq_add_neg, Int32.neg_add, Int32.add_assoc]
def tcC (M : MS) (t : Nat) : Int32 := match carA M t with | none => M 7 t | some r => M 18 r
set_option maxHeartbeats 4000000 in
set_option maxRecDepth 100000 in
theorem cJ_X8_time (l : Launch) (G : gG) (d0 mi : Nat) (Rf : Nat → Prop) (ja : Nat → Nat → Nat) (M : MS) (E : ES) : Met l yX8_time (wB yX8_time cX8_time 1 (some .int)) (rmL 3 0 0) (va_Pc [.ref (ja 8 0)] (jB G d0 mi Rf ja M E)) (k2_QcV (.int (M 1 0))) 0 0 fN := by
  refine st_N (own := RX8) (by decide +kernel) rfl (Nat.le_of_ble_eq_true rfl) ?_
  intro p e s m below meth c ls args Q hQ hC hr hlk hnm hl hP
  obtain ⟨hW, hX, hRf⟩ := hP
  have hK := hX.1
  have hx := hC.1
  have hb := hC.2.1
  have hl : lv_has ls 1 [(0, .ref (ja 8 0))] := hl
  have hS : va_S (jA Rf) s.heap s.heap [] := va_S.rf
  refine lv_aload_n hx hb dX8_time_0 rfl (lv_at hl 0 rfl) ?_
  refine r1_get hC hK.1 (hW.ob (show jV M 8 0 from rfl)) lay_X8 rfl 5 (by decide) fl_X8_32 (fun x hx => hx) (v := .int (M 1 0)) rfl dX8_time_1 ?_
  subst hQ
  exact rt_i hx hb hr hlk (rfl) dX8_time_4
set_option maxHeartbeats 4000000 in
set_option maxRecDepth 100000 in
theorem cJ_X8_steps (l : Launch) (G : gG) (d0 mi : Nat) (Rf : Nat → Prop) (ja : Nat → Nat → Nat) (M : MS) (E : ES) : Met l yX8_steps (wB yX8_steps cX8_steps 1 (some .int)) (rmL 3 0 0) (va_Pc [.ref (ja 8 0)] (jB G d0 mi Rf ja M E)) (k2_QcV (.int (M 28 0))) 0 0 fN := by
  refine st_N (own := RX8) (by decide +kernel) rfl (Nat.le_of_ble_eq_true rfl) ?_
  intro p e s m below meth c ls args Q hQ hC hr hlk hnm hl hP
  obtain ⟨hW, hX, hRf⟩ := hP
  have hK := hX.1
  have hx := hC.1
  have hb := hC.2.1
  have hl : lv_has ls 1 [(0, .ref (ja 8 0))] := hl
  have hS : va_S (jA Rf) s.heap s.heap [] := va_S.rf
  refine lv_aload_n hx hb dX8_steps_0 rfl (lv_at hl 0 rfl) ?_
  refine r1_get hC hK.1 (hW.ob (show jV M 8 0 from rfl)) lay_X8 rfl 0 (by decide) fl_X8_10 (fun x hx => hx) (v := .ref (ja 0 0)) rfl dX8_steps_1 ?_
  refine r1_get hC hK.1 (hW.ob (show jV M 0 0 from rfl)) lay_X0 rfl 2 (by decide) fl_X8_251 (fun x hx => hx) (v := .int (M 28 0)) rfl dX8_steps_4 ?_
  subst hQ
  exact rt_i hx hb hr hlk (rfl) dX8_steps_7
set_option maxHeartbeats 4000000 in
set_option maxRecDepth 100000 in
theorem cJ_X8_rings (l : Launch) (G : gG) (d0 mi : Nat) (Rf : Nat → Prop) (ja : Nat → Nat → Nat) (M : MS) (E : ES) : Met l yX8_rings (wB yX8_rings cX8_rings 1 (some .int)) (rmL 3 0 0) (va_Pc [.ref (ja 8 0)] (jB G d0 mi Rf ja M E)) (k2_QcV (.int (M 29 0))) 0 0 fN := by
  refine st_N (own := RX8) (by decide +kernel) rfl (Nat.le_of_ble_eq_true rfl) ?_
  intro p e s m below meth c ls args Q hQ hC hr hlk hnm hl hP
  obtain ⟨hW, hX, hRf⟩ := hP
  have hK := hX.1
  have hx := hC.1
  have hb := hC.2.1
  have hl : lv_has ls 1 [(0, .ref (ja 8 0))] := hl
  have hS : va_S (jA Rf) s.heap s.heap [] := va_S.rf
  refine lv_aload_n hx hb dX8_rings_0 rfl (lv_at hl 0 rfl) ?_
  refine r1_get hC hK.1 (hW.ob (show jV M 8 0 from rfl)) lay_X8 rfl 0 (by decide) fl_X8_10 (fun x hx => hx) (v := .ref (ja 0 0)) rfl dX8_rings_1 ?_
  refine r1_get hC hK.1 (hW.ob (show jV M 0 0 from rfl)) lay_X0 rfl 3 (by decide) fl_X8_254 (fun x hx => hx) (v := .int (M 29 0)) rfl dX8_rings_4 ?_
  subst hQ
  exact rt_i hx hb hr hlk (rfl) dX8_rings_7
set_option maxHeartbeats 4000000 in
set_option maxRecDepth 100000 in
theorem cJ_X8_yields (l : Launch) (G : gG) (d0 mi : Nat) (Rf : Nat → Prop) (ja : Nat → Nat → Nat) (M : MS) (E : ES) : Met l yX8_yields (wB yX8_yields cX8_yields 1 (some .int)) (rmL 3 0 0) (va_Pc [.ref (ja 8 0)] (jB G d0 mi Rf ja M E)) (k2_QcV (.int (M 30 0))) 0 0 fN := by
  refine st_N (own := RX8) (by decide +kernel) rfl (Nat.le_of_ble_eq_true rfl) ?_
  intro p e s m below meth c ls args Q hQ hC hr hlk hnm hl hP
  obtain ⟨hW, hX, hRf⟩ := hP
  have hK := hX.1
  have hx := hC.1
  have hb := hC.2.1
  have hl : lv_has ls 1 [(0, .ref (ja 8 0))] := hl
  have hS : va_S (jA Rf) s.heap s.heap [] := va_S.rf
  refine lv_aload_n hx hb dX8_yields_0 rfl (lv_at hl 0 rfl) ?_
  refine r1_get hC hK.1 (hW.ob (show jV M 8 0 from rfl)) lay_X8 rfl 0 (by decide) fl_X8_10 (fun x hx => hx) (v := .ref (ja 0 0)) rfl dX8_yields_1 ?_
  refine r1_get hC hK.1 (hW.ob (show jV M 0 0 from rfl)) lay_X0 rfl 4 (by decide) fl_X8_257 (fun x hx => hx) (v := .int (M 30 0)) rfl dX8_yields_4 ?_
  subst hQ
  exact rt_i hx hb hr hlk (rfl) dX8_yields_7
set_option maxHeartbeats 4000000 in
set_option maxRecDepth 100000 in
theorem cJ_X8_knots (l : Launch) (G : gG) (d0 mi : Nat) (Rf : Nat → Prop) (ja : Nat → Nat → Nat) (M : MS) (E : ES) : Met l yX8_knots (wB yX8_knots cX8_knots 1 (some .int)) (rmL 3 0 0) (va_Pc [.ref (ja 8 0)] (jB G d0 mi Rf ja M E)) (k2_QcV (.int (M 31 0))) 0 0 fN := by
  refine st_N (own := RX8) (by decide +kernel) rfl (Nat.le_of_ble_eq_true rfl) ?_
  intro p e s m below meth c ls args Q hQ hC hr hlk hnm hl hP
  obtain ⟨hW, hX, hRf⟩ := hP
  have hK := hX.1
  have hx := hC.1
  have hb := hC.2.1
  have hl : lv_has ls 1 [(0, .ref (ja 8 0))] := hl
  have hS : va_S (jA Rf) s.heap s.heap [] := va_S.rf
  refine lv_aload_n hx hb dX8_knots_0 rfl (lv_at hl 0 rfl) ?_
  refine r1_get hC hK.1 (hW.ob (show jV M 8 0 from rfl)) lay_X8 rfl 0 (by decide) fl_X8_10 (fun x hx => hx) (v := .ref (ja 0 0)) rfl dX8_knots_1 ?_
  refine r1_get hC hK.1 (hW.ob (show jV M 0 0 from rfl)) lay_X0 rfl 5 (by decide) fl_X8_260 (fun x hx => hx) (v := .int (M 31 0)) rfl dX8_knots_4 ?_
  subst hQ
  exact rt_i hx hb hr hlk (rfl) dX8_knots_7
set_option maxHeartbeats 4000000 in
set_option maxRecDepth 100000 in
theorem cJ_X8_picks (l : Launch) (G : gG) (d0 mi : Nat) (Rf : Nat → Prop) (ja : Nat → Nat → Nat) (M : MS) (E : ES) : Met l yX8_picks (wB yX8_picks cX8_picks 1 (some .int)) (rmL 4 0 0) (va_Pc [.ref (ja 8 0)] (jB G d0 mi Rf ja M E)) (k2_QcV (.int (nI (nP M)))) 0 0 fN := by
  refine st_N (own := RX8) (by decide +kernel) rfl (Nat.le_of_ble_eq_true rfl) ?_
  intro p e s m below meth c ls args Q hQ hC hr hlk hnm hl hP
  obtain ⟨hW, hX, hRf⟩ := hP
  have hK := hX.1
  have hx := hC.1
  have hb := hC.2.1
  have hl : lv_has ls 1 [(0, .ref (ja 8 0))] := hl
  have hS : va_S (jA Rf) s.heap s.heap [] := va_S.rf
  refine lv_aload_n hx hb dX8_picks_0 rfl (lv_at hl 0 rfl) ?_
  refine r1_get hC hK.1 (hW.ob (show jV M 8 0 from rfl)) lay_X8 rfl 4 (by decide) fl_X8_29 (fun x hx => hx) (v := .ref (ja 10 3)) rfl dX8_picks_1 ?_
  refine jw_size hC hK hW.1 (i := 3) (Or.inl (by decide)) ml_X8_81 hl.1 (Nat.le_of_ble_eq_true rfl) ⟨Nat.le_of_ble_eq_true rfl, Nat.le_of_ble_eq_true rfl, Nat.le_refl _, Nat.le_refl _⟩ dX8_picks_4 ?_
  refine top_i (y := nI (nP M)) rfl ?_
  subst hQ
  exact rt_i hx hb hr hlk (rfl) dX8_picks_7
set_option maxHeartbeats 4000000 in
set_option maxRecDepth 100000 in
theorem cJ_X8_distance (l : Launch) (G : gG) (d0 mi : Nat) (Rf : Nat → Prop) (ja : Nat → Nat → Nat) (M : MS) (E : ES) (f : Nat) (t : Nat) (hD : hD_ M E) (hf : f < 64) (ht9 : t < 64) : Met l yX8_distance (wB yX8_distance cX8_distance 3 (some .int)) (rmL 4 0 0) (va_Pc [.ref (ja 8 0), .int (nI f), .int (nI t)] (jB G d0 mi Rf ja M E)) (k2_QcV (.int (oI (dGM M f t)))) 0 0 fN := by
  refine st_N (own := RX8) (by decide +kernel) rfl (Nat.le_of_ble_eq_true rfl) ?_
  intro p e s m below meth c ls args Q hQ hC hr hlk hnm hl hP
  obtain ⟨hW, hX, hRf⟩ := hP
  have hK := hX.1
  have hx := hC.1
  have hb := hC.2.1
  have hl : lv_has ls 3 [(0, .ref (ja 8 0)), (1, .int (nI f)), (2, .int (nI t))] := hl
  have hS : va_S (jA Rf) s.heap s.heap [] := va_S.rf
  refine lv_iload_n hx hb dX8_distance_0 rfl (lv_at hl 1 rfl) ?_
  refine cl_pv (run_S hC (cJ_X8_requireCell l f (by omega)) (As := [.int (nI f)]) (rest := []) rfl rfl ml_X8_36 sm_X8_requireCell ini_X8 cd_X8_requireCell na_X8_requireCell tB_blind (fun _ _ _ => trivial) hl.1 (Nat.le_of_ble_eq_true rfl) ⟨Nat.le_of_ble_eq_true rfl, Nat.le_of_ble_eq_true rfl⟩ ⟨Nat.le_refl _, Nat.le_refl _⟩ rfl dX8_distance_1) ?_
  refine lv_iload_n hx hb dX8_distance_4 rfl (lv_at hl 2 rfl) ?_
  refine cl_pv (run_S hC (cJ_X8_requireCell l t (by omega)) (As := [.int (nI t)]) (rest := []) rfl rfl ml_X8_36 sm_X8_requireCell ini_X8 cd_X8_requireCell na_X8_requireCell tB_blind (fun _ _ _ => trivial) hl.1 (Nat.le_of_ble_eq_true rfl) ⟨Nat.le_of_ble_eq_true rfl, Nat.le_of_ble_eq_true rfl⟩ ⟨Nat.le_refl _, Nat.le_refl _⟩ rfl dX8_distance_5) ?_
  refine lv_aload_n hx hb dX8_distance_8 rfl (lv_at hl 0 rfl) ?_
  refine r1_get hC hK.1 (hW.ob (show jV M 8 0 from rfl)) lay_X8 rfl 0 (by decide) fl_X8_10 (fun x hx => hx) (v := .ref (ja 0 0)) rfl dX8_distance_9 ?_
  refine r1_get hC hK.1 (hW.ob (show jV M 0 0 from rfl)) lay_X0 rfl 0 (by decide) fl_X8_40 (fun x hx => hx) (v := .ref (ja 1 0)) rfl dX8_distance_12 ?_
  refine lv_iload_n hx hb dX8_distance_15 rfl (lv_at hl 1 rfl) ?_
  refine lv_iload_n hx hb dX8_distance_16 rfl (lv_at hl 2 rfl) ?_
  refine lv_iconst (v := (-1)) hx hb dX8_distance_17 (by decide) ?_
  refine cl_p (run_V hC (cJ_X1_stepsBetween l G d0 mi Rf ja M E f t (-1) (by omega) (by omega)) (As := [.int (nI f), .int (nI t), .int (-1)]) (rest := []) rfl rfl ml_X8_77 im_X1_stepsBetween se_X1_stepsBetween ini_X1 cd_X1_stepsBetween ⟨rfl, na_X1_stepsBetween⟩ jB_blind (hW.recv hK (show jV M 1 0 from rfl) rfl) (jB_at hX hRf hW hS) hl.1 (Nat.le_of_ble_eq_true rfl) ⟨Nat.le_of_ble_eq_true rfl, Nat.le_of_ble_eq_true rfl⟩ ⟨Nat.le_refl _, Nat.le_refl _⟩ rfl dX8_distance_18) ?_
  subst hQ
  exact rt_i hx hb hr hlk (by rw [dG_X hD hf ht9]) dX8_distance_21
set_option maxHeartbeats 4000000 in
set_option maxRecDepth 100000 in
theorem cJ_X8_distanceX1 (l : Launch) (G : gG) (d0 mi : Nat) (Rf : Nat → Prop) (ja : Nat → Nat → Nat) (M : MS) (E : ES) (x : Int32) (y : Int32) (hno : inB x 64 = false) (hl9 : l.stackTraces = false) : vx_Met l yX8_distance (wB yX8_distance cX8_distance 3 (some .int)) (rmL 4 1 6) (va_Pc [.ref (ja 8 0), .int x, .int y] (jT G d0 mi Rf ja M E)) xQ (xN xIAE) 1 6 (jA Rf) := by
  refine st_X (own := RX8) (by decide +kernel) rfl (Nat.le_of_ble_eq_true rfl) ?_
  intro p e s m below meth c ls args Q hQ hC hr hlk hex hl hP
  obtain ⟨⟨hW, hX, hRf⟩, hT9⟩ := hP
  have hK := hX.1
  have hx := hC.1
  have hb := hC.2.1
  have hl : lv_has ls 3 [(0, .ref (ja 8 0)), (1, .int x), (2, .int y)] := hl
  have hS : va_S (jA Rf) s.heap s.heap [] := va_S.rf
  refine lv_iload_n hx hb dX8_distance_0 rfl (lv_at hl 1 rfl) ?_
  exact jx_call (run_SX hC (cJ_X8_requireCellX l G d0 mi Rf ja M E x (by assumption) hl9) (As := [.int x]) (rest := []) rfl rfl ml_X8_36 sm_X8_requireCell ini_X8 cd_X8_requireCell na_X8_requireCell jT_blind (jT_at hX hT9 hRf hW hS) hl.1 (Nat.le_of_ble_eq_true rfl) ⟨Nat.le_of_ble_eq_true rfl, Nat.le_of_ble_eq_true rfl⟩ ⟨Nat.le_refl _, Nat.le_refl _⟩ rfl dX8_distance_1) hQ hex hlk
set_option maxHeartbeats 4000000 in
set_option maxRecDepth 100000 in
theorem cJ_X8_distanceX2 (l : Launch) (G : gG) (d0 mi : Nat) (Rf : Nat → Prop) (ja : Nat → Nat → Nat) (M : MS) (E : ES) (f : Nat) (y : Int32) (hf : f < 64) (hno : inB y 64 = false) (hl9 : l.stackTraces = false) : vx_Met l yX8_distance (wB yX8_distance cX8_distance 3 (some .int)) (rmL 4 1 6) (va_Pc [.ref (ja 8 0), .int (nI f), .int y] (jT G d0 mi Rf ja M E)) xQ (xN xIAE) 1 6 (jA Rf) := by
  refine st_X (own := RX8) (by decide +kernel) rfl (Nat.le_of_ble_eq_true rfl) ?_
  intro p e s m below meth c ls args Q hQ hC hr hlk hex hl hP
  obtain ⟨⟨hW, hX, hRf⟩, hT9⟩ := hP
  have hK := hX.1
  have hx := hC.1
  have hb := hC.2.1
  have hl : lv_has ls 3 [(0, .ref (ja 8 0)), (1, .int (nI f)), (2, .int y)] := hl
  have hS : va_S (jA Rf) s.heap s.heap [] := va_S.rf
  refine lv_iload_n hx hb dX8_distance_0 rfl (lv_at hl 1 rfl) ?_
  refine cl_pv (run_S hC (cJ_X8_requireCell l f (by omega)) (As := [.int (nI f)]) (rest := []) rfl rfl ml_X8_36 sm_X8_requireCell ini_X8 cd_X8_requireCell na_X8_requireCell tB_blind (fun _ _ _ => trivial) hl.1 (Nat.le_of_ble_eq_true rfl) ⟨Nat.le_of_ble_eq_true rfl, Nat.le_of_ble_eq_true rfl⟩ ⟨by show 0 + 0 ≤ 1; omega, by show 0 + 0 ≤ 6; omega⟩ rfl dX8_distance_1) ?_
  refine lv_iload_n hx hb dX8_distance_4 rfl (lv_at hl 2 rfl) ?_
  exact jx_call (run_SX hC (cJ_X8_requireCellX l G d0 mi Rf ja M E y (by assumption) hl9) (As := [.int y]) (rest := []) rfl rfl ml_X8_36 sm_X8_requireCell ini_X8 cd_X8_requireCell na_X8_requireCell jT_blind (jT_at hX hT9 hRf hW hS) hl.1 (Nat.le_of_ble_eq_true rfl) ⟨Nat.le_of_ble_eq_true rfl, Nat.le_of_ble_eq_true rfl⟩ ⟨Nat.le_refl _, Nat.le_refl _⟩ rfl dX8_distance_5) hQ hex hlk
set_option maxHeartbeats 4000000 in
set_option maxRecDepth 100000 in
theorem cJ_X8_left (l : Launch) (G : gG) (d0 mi : Nat) (Rf : Nat → Prop) (ja : Nat → Nat → Nat) (M : MS) (E : ES) (o : Nat) (k : Nat) (h1 : o < nO M) (h2 : k < nL M o) : Met l yX8_left (wB yX8_left cX8_left 3 (some .int)) (rmL 6 0 0) (va_Pc [.ref (ja 8 0), .int (nI o), .int (nI k)] (jB G d0 mi Rf ja M E)) (k2_QcV (.int (M 13 (3 * o + k)))) 0 0 fN := by
  refine st_N (own := RX8) (by decide +kernel) rfl (Nat.le_of_ble_eq_true rfl) ?_
  intro p e s m below meth c ls args Q hQ hC hr hlk hnm hl hP
  obtain ⟨hW, hX, hRf⟩ := hP
  have hK := hX.1
  have hx := hC.1
  have hb := hC.2.1
  have hl : lv_has ls 3 [(0, .ref (ja 8 0)), (1, .int (nI o)), (2, .int (nI k))] := hl
  have hS : va_S (jA Rf) s.heap s.heap [] := va_S.rf
  have hO := hW.cnt.O10
  have hL := hW.cnt.L3 (o := o) (by omega)
  have hv2 : VL M (3 * o + k) = true := VL_ok h1 h2 hL
  have hk30 := VL_lt hW.cnt hv2
  refine lv_aload_n hx hb dX8_left_0 rfl (lv_at hl 0 rfl) ?_
  refine lv_iload_n hx hb dX8_left_1 rfl (lv_at hl 1 rfl) ?_
  refine lv_iload_n hx hb dX8_left_2 rfl (lv_at hl 2 rfl) ?_
  refine cl_p (run_V hC (cJ_X8_findLine l G d0 mi Rf ja M E o k (by omega) (by omega)) (As := [.int (nI o), .int (nI k)]) (rest := []) rfl rfl ml_X8_154 im_X8_findLine se_X8_findLine ini_X8 cd_X8_findLine ⟨rfl, na_X8_findLine⟩ jB_blind (hW.recv hK (show jV M 8 0 from rfl) rfl) (jB_at hX hRf hW hS) hl.1 (Nat.le_of_ble_eq_true rfl) ⟨Nat.le_of_ble_eq_true rfl, Nat.le_of_ble_eq_true rfl⟩ ⟨Nat.le_refl _, Nat.le_refl _⟩ rfl dX8_left_3) ?_
  refine r1_get hC hK.1 (hW.ob (show jV M 2 (3 * o + k) from hv2)) lay_X2 rfl 2 (by decide) fl_X8_182 (fun x hx => hx) (v := .int (M 13 (3 * o + k))) rfl dX8_left_6 ?_
  subst hQ
  exact rt_i hx hb hr hlk (rfl) dX8_left_9
set_option maxHeartbeats 4000000 in
set_option maxRecDepth 100000 in
theorem cJ_X8_leftX (l : Launch) (G : gG) (d0 mi : Nat) (Rf : Nat → Prop) (ja : Nat → Nat → Nat) (M : MS) (E : ES) (o : Int32) (k : Int32) (hno : lnB M o k = false) (hl9 : l.stackTraces = false) : vx_Met l yX8_left (wB yX8_left cX8_left 3 (some .int)) (rmL 6 1 6) (va_Pc [.ref (ja 8 0), .int o, .int k] (jT G d0 mi Rf ja M E)) xQ (xN xIOE) 1 6 (jA Rf) := by
  refine st_X (own := RX8) (by decide +kernel) rfl (Nat.le_of_ble_eq_true rfl) ?_
  intro p e s m below meth c ls args Q hQ hC hr hlk hex hl hP
  obtain ⟨⟨hW, hX, hRf⟩, hT9⟩ := hP
  have hK := hX.1
  have hx := hC.1
  have hb := hC.2.1
  have hl : lv_has ls 3 [(0, .ref (ja 8 0)), (1, .int o), (2, .int k)] := hl
  have hS : va_S (jA Rf) s.heap s.heap [] := va_S.rf
  refine lv_aload_n hx hb dX8_left_0 rfl (lv_at hl 0 rfl) ?_
  refine lv_iload_n hx hb dX8_left_1 rfl (lv_at hl 1 rfl) ?_
  refine lv_iload_n hx hb dX8_left_2 rfl (lv_at hl 2 rfl) ?_
  exact jx_call (run_VX hC (cJ_X8_findLineX l G d0 mi Rf ja M E o k (by assumption) hl9) (As := [.int o, .int k]) (rest := []) rfl rfl ml_X8_154 im_X8_findLine se_X8_findLine ini_X8 cd_X8_findLine ⟨rfl, na_X8_findLine⟩ jT_blind (hW.recv hK (show jV M 8 0 from rfl) rfl) (jT_at hX hT9 hRf hW hS) hl.1 (Nat.le_of_ble_eq_true rfl) ⟨Nat.le_of_ble_eq_true rfl, Nat.le_of_ble_eq_true rfl⟩ ⟨Nat.le_refl _, Nat.le_refl _⟩ rfl dX8_left_3) hQ hex hlk
set_option maxHeartbeats 4000000 in
set_option maxRecDepth 100000 in
theorem cJ_X8_claimant (l : Launch) (G : gG) (d0 mi : Nat) (Rf : Nat → Prop) (ja : Nat → Nat → Nat) (M : MS) (E : ES) (o : Nat) (k : Nat) (h1 : o < nO M) (h2 : k < nL M o) : Met l yX8_claimant (wB yX8_claimant cX8_claimant 4 (some .int)) (rmL 6 0 0) (va_Pc [.ref (ja 8 0), .int (nI o), .int (nI k)] (jB G d0 mi Rf ja M E)) (k2_QcV (.int (M 14 (3 * o + k)))) 0 0 fN := by
  refine st_N (own := RX8) (by decide +kernel) rfl (Nat.le_of_ble_eq_true rfl) ?_
  intro p e s m below meth c ls args Q hQ hC hr hlk hnm hl hP
  obtain ⟨hW, hX, hRf⟩ := hP
  have hK := hX.1
  have hx := hC.1
  have hb := hC.2.1
  have hl : lv_has ls 4 [(0, .ref (ja 8 0)), (1, .int (nI o)), (2, .int (nI k))] := hl
  have hS : va_S (jA Rf) s.heap s.heap [] := va_S.rf
  have hO := hW.cnt.O10
  have hL := hW.cnt.L3 (o := o) (by omega)
  have hv2 : VL M (3 * o + k) = true := VL_ok h1 h2 hL
  have hk30 := VL_lt hW.cnt hv2
  refine lv_aload_n hx hb dX8_claimant_0 rfl (lv_at hl 0 rfl) ?_
  refine lv_iload_n hx hb dX8_claimant_1 rfl (lv_at hl 1 rfl) ?_
  refine lv_iload_n hx hb dX8_claimant_2 rfl (lv_at hl 2 rfl) ?_
  refine cl_p (run_V hC (cJ_X8_findLine l G d0 mi Rf ja M E o k (by omega) (by omega)) (As := [.int (nI o), .int (nI k)]) (rest := []) rfl rfl ml_X8_154 im_X8_findLine se_X8_findLine ini_X8 cd_X8_findLine ⟨rfl, na_X8_findLine⟩ jB_blind (hW.recv hK (show jV M 8 0 from rfl) rfl) (jB_at hX hRf hW hS) hl.1 (Nat.le_of_ble_eq_true rfl) ⟨Nat.le_of_ble_eq_true rfl, Nat.le_of_ble_eq_true rfl⟩ ⟨Nat.le_refl _, Nat.le_refl _⟩ rfl dX8_claimant_3) ?_
  rcases hW.pt.2.1 _ (show VL M (3 * o + k) = true from hv2) with hq1 | ⟨t1, ht1, hq1⟩
  · refine r1_get hC hK.1 (hW.ob (show jV M 2 (3 * o + k) from hv2)) lay_X2 rfl 3 (by decide) fl_X8_158 (fun x hx => hx) (v := .null) (show some (va_rf (jp ja 6 (M 14 (3 * o + k)))) = _ by rw [show M 14 (3 * o + k) = -1 from hq1, jp_n]; rfl) dX8_claimant_6 ?_
    refine lv_astore_nN (lv' := [(3, .null), (0, .ref (ja 8 0)), (1, .int (nI o)), (2, .int (nI k))]) hx hb dX8_claimant_9 rfl hl (by decide) rfl (fun ls hl => ?_)
    refine lv_aload_nN hx hb dX8_claimant_10 rfl (lv_at hl 0 rfl) ?_
    refine lv_ifnonnullN hx hb dX8_claimant_11 ?_
    refine lv_iconst (v := (-1)) hx hb dX8_claimant_14 (by decide) ?_
    refine lv_goto (tgt := 22) hx hb dX8_claimant_15 (by decide) ?_
    subst hQ
    exact rt_i hx hb hr hlk (by rw [hq1]) dX8_claimant_22
  · have hb1_ := hW.cnt.S3
    refine r1_get hC hK.1 (hW.ob (show jV M 2 (3 * o + k) from hv2)) lay_X2 rfl 3 (by decide) fl_X8_158 (fun x hx => hx) (v := .ref (ja 6 t1)) (show some (va_rf (jp ja 6 (M 14 (3 * o + k)))) = _ by rw [show M 14 (3 * o + k) = nI t1 from hq1, jp_s _ (by omega)]; rfl) dX8_claimant_6 ?_
    refine lv_astore_n (lv' := [(3, .ref (ja 6 t1)), (0, .ref (ja 8 0)), (1, .int (nI o)), (2, .int (nI k))]) hx hb dX8_claimant_9 rfl hl (by decide) rfl (fun ls hl => ?_)
    refine lv_aload_n hx hb dX8_claimant_10 rfl (lv_at hl 0 rfl) ?_
    refine lv_ifnonnull (tgt := 18) hx hb dX8_claimant_11 (by decide) ?_
    refine lv_aload_n hx hb dX8_claimant_18 rfl (lv_at hl 0 rfl) ?_
    refine r1_get hC hK.1 (hW.ob (show jV M 6 t1 from ht1)) lay_X6 rfl 0 (by decide) fl_X8_96 (fun x hx => hx) (v := .int (nI t1)) rfl dX8_claimant_19 ?_
    subst hQ
    exact rt_i hx hb hr hlk (by rw [hq1]) dX8_claimant_22
set_option maxHeartbeats 4000000 in
set_option maxRecDepth 100000 in
theorem cJ_X8_claimantX (l : Launch) (G : gG) (d0 mi : Nat) (Rf : Nat → Prop) (ja : Nat → Nat → Nat) (M : MS) (E : ES) (o : Int32) (k : Int32) (hno : lnB M o k = false) (hl9 : l.stackTraces = false) : vx_Met l yX8_claimant (wB yX8_claimant cX8_claimant 4 (some .int)) (rmL 6 1 6) (va_Pc [.ref (ja 8 0), .int o, .int k] (jT G d0 mi Rf ja M E)) xQ (xN xIOE) 1 6 (jA Rf) := by
  refine st_X (own := RX8) (by decide +kernel) rfl (Nat.le_of_ble_eq_true rfl) ?_
  intro p e s m below meth c ls args Q hQ hC hr hlk hex hl hP
  obtain ⟨⟨hW, hX, hRf⟩, hT9⟩ := hP
  have hK := hX.1
  have hx := hC.1
  have hb := hC.2.1
  have hl : lv_has ls 4 [(0, .ref (ja 8 0)), (1, .int o), (2, .int k)] := hl
  have hS : va_S (jA Rf) s.heap s.heap [] := va_S.rf
  refine lv_aload_n hx hb dX8_claimant_0 rfl (lv_at hl 0 rfl) ?_
  refine lv_iload_n hx hb dX8_claimant_1 rfl (lv_at hl 1 rfl) ?_
  refine lv_iload_n hx hb dX8_claimant_2 rfl (lv_at hl 2 rfl) ?_
  exact jx_call (run_VX hC (cJ_X8_findLineX l G d0 mi Rf ja M E o k (by assumption) hl9) (As := [.int o, .int k]) (rest := []) rfl rfl ml_X8_154 im_X8_findLine se_X8_findLine ini_X8 cd_X8_findLine ⟨rfl, na_X8_findLine⟩ jT_blind (hW.recv hK (show jV M 8 0 from rfl) rfl) (jT_at hX hT9 hRf hW hS) hl.1 (Nat.le_of_ble_eq_true rfl) ⟨Nat.le_of_ble_eq_true rfl, Nat.le_of_ble_eq_true rfl⟩ ⟨Nat.le_refl _, Nat.le_refl _⟩ rfl dX8_claimant_3) hQ hex hlk
set_option maxHeartbeats 4000000 in
set_option maxRecDepth 100000 in
theorem cJ_X8_amount (l : Launch) (G : gG) (d0 mi : Nat) (Rf : Nat → Prop) (ja : Nat → Nat → Nat) (M : MS) (E : ES) (t : Nat) (h1 : t < nT M) : Met l yX8_amount (wB yX8_amount cX8_amount 2 (some .int)) (rmL 6 0 0) (va_Pc [.ref (ja 8 0), .int (nI t)] (jB G d0 mi Rf ja M E)) (k2_QcV (.int (M 9 t))) 0 0 fN := by
  refine st_N (own := RX8) (by decide +kernel) rfl (Nat.le_of_ble_eq_true rfl) ?_
  intro p e s m below meth c ls args Q hQ hC hr hlk hnm hl hP
  obtain ⟨hW, hX, hRf⟩ := hP
  have hK := hX.1
  have hx := hC.1
  have hb := hC.2.1
  have hl : lv_has ls 2 [(0, .ref (ja 8 0)), (1, .int (nI t))] := hl
  have hS : va_S (jA Rf) s.heap s.heap [] := va_S.rf
  refine lv_aload_n hx hb dX8_amount_0 rfl (lv_at hl 0 rfl) ?_
  refine lv_iload_n hx hb dX8_amount_1 rfl (lv_at hl 1 rfl) ?_
  refine cl_p (run_V hC (cJ_X8_findTray l G d0 mi Rf ja M E t (by omega)) (As := [.int (nI t)]) (rest := []) rfl rfl ml_X8_116 im_X8_findTray se_X8_findTray ini_X8 cd_X8_findTray ⟨rfl, na_X8_findTray⟩ jB_blind (hW.recv hK (show jV M 8 0 from rfl) rfl) (jB_at hX hRf hW hS) hl.1 (Nat.le_of_ble_eq_true rfl) ⟨Nat.le_of_ble_eq_true rfl, Nat.le_of_ble_eq_true rfl⟩ ⟨Nat.le_refl _, Nat.le_refl _⟩ rfl dX8_amount_2) ?_
  refine r1_get hC hK.1 (hW.ob (show jV M 7 t from (by show t < nT M; omega))) lay_X7 rfl 3 (by decide) fl_X8_126 (fun x hx => hx) (v := .int (M 9 t)) rfl dX8_amount_5 ?_
  subst hQ
  exact rt_i hx hb hr hlk (rfl) dX8_amount_8
set_option maxHeartbeats 4000000 in
set_option maxRecDepth 100000 in
theorem cJ_X8_amountX (l : Launch) (G : gG) (d0 mi : Nat) (Rf : Nat → Prop) (ja : Nat → Nat → Nat) (M : MS) (E : ES) (x : Int32) (hno : inB x (nI (nT M)) = false) (hl9 : l.stackTraces = false) : vx_Met l yX8_amount (wB yX8_amount cX8_amount 2 (some .int)) (rmL 6 1 6) (va_Pc [.ref (ja 8 0), .int x] (jT G d0 mi Rf ja M E)) xQ (xN xIOE) 1 6 (jA Rf) := by
  refine st_X (own := RX8) (by decide +kernel) rfl (Nat.le_of_ble_eq_true rfl) ?_
  intro p e s m below meth c ls args Q hQ hC hr hlk hex hl hP
  obtain ⟨⟨hW, hX, hRf⟩, hT9⟩ := hP
  have hK := hX.1
  have hx := hC.1
  have hb := hC.2.1
  have hl : lv_has ls 2 [(0, .ref (ja 8 0)), (1, .int x)] := hl
  have hS : va_S (jA Rf) s.heap s.heap [] := va_S.rf
  refine lv_aload_n hx hb dX8_amount_0 rfl (lv_at hl 0 rfl) ?_
  refine lv_iload_n hx hb dX8_amount_1 rfl (lv_at hl 1 rfl) ?_
  exact jx_call (run_VX hC (cJ_X8_findTrayX l G d0 mi Rf ja M E x (by assumption) hl9) (As := [.int x]) (rest := []) rfl rfl ml_X8_116 im_X8_findTray se_X8_findTray ini_X8 cd_X8_findTray ⟨rfl, na_X8_findTray⟩ jT_blind (hW.recv hK (show jV M 8 0 from rfl) rfl) (jT_at hX hT9 hRf hW hS) hl.1 (Nat.le_of_ble_eq_true rfl) ⟨Nat.le_of_ble_eq_true rfl, Nat.le_of_ble_eq_true rfl⟩ ⟨Nat.le_refl _, Nat.le_refl _⟩ rfl dX8_amount_2) hQ hex hlk
theorem carA_lt {M : MS} {t k : Nat} (h : carA M t = some k) : k < nR M := by
  unfold carA at h
  cases hr : rtA M t with
  | none => rw [hr] at h; cases h
  | some r =>
    rw [hr] at h
    have h9 := (lastE_lt (show lastE (M 21) (nI t) (nR M) = some r from hr)).1
    dsimp only at h
    split at h
    all_goals first | (cases h; exact h9) | cases h
set_option maxHeartbeats 4000000 in
set_option maxRecDepth 100000 in
theorem cJ_X8_trayCell (l : Launch) (G : gG) (d0 mi : Nat) (Rf : Nat → Prop) (ja : Nat → Nat → Nat) (M : MS) (E : ES) (t : Nat) (h1 : t < nT M) (huq21 : uq21 M) : Met l yX8_trayCell (wB yX8_trayCell cX8_trayCell 4 (some .int)) (rmL 6 0 0) (va_Pc [.ref (ja 8 0), .int (nI t)] (jB G d0 mi Rf ja M E)) (k2_QcV (.int (tcC M t))) 0 0 fN := by
  refine st_N (own := RX8) (by decide +kernel) rfl (Nat.le_of_ble_eq_true rfl) ?_
  intro p e s m below meth c ls args Q hQ hC hr hlk hnm hl hP
  obtain ⟨hW, hX, hRf⟩ := hP
  have hK := hX.1
  have hx := hC.1
  have hb := hC.2.1
  have hl : lv_has ls 4 [(0, .ref (ja 8 0)), (1, .int (nI t))] := hl
  have hS : va_S (jA Rf) s.heap s.heap [] := va_S.rf
  have h16 := hW.cnt.T16
  refine lv_aload_n hx hb dX8_trayCell_0 rfl (lv_at hl 0 rfl) ?_
  refine lv_iload_n hx hb dX8_trayCell_1 rfl (lv_at hl 1 rfl) ?_
  refine cl_p (run_V hC (cJ_X8_findTray l G d0 mi Rf ja M E t (by omega)) (As := [.int (nI t)]) (rest := []) rfl rfl ml_X8_116 im_X8_findTray se_X8_findTray ini_X8 cd_X8_findTray ⟨rfl, na_X8_findTray⟩ jB_blind (hW.recv hK (show jV M 8 0 from rfl) rfl) (jB_at hX hRf hW hS) hl.1 (Nat.le_of_ble_eq_true rfl) ⟨Nat.le_of_ble_eq_true rfl, Nat.le_of_ble_eq_true rfl⟩ ⟨Nat.le_refl _, Nat.le_refl _⟩ rfl dX8_trayCell_2) ?_
  refine lv_astore_n (lv' := [(2, .ref (ja 7 t)), (0, .ref (ja 8 0)), (1, .int (nI t))]) hx hb dX8_trayCell_5 rfl hl (by decide) rfl (fun ls hl => ?_)
  refine lv_aload_n hx hb dX8_trayCell_6 rfl (lv_at hl 1 rfl) ?_
  refine r1_get hC hK.1 (hW.ob (show jV M 8 0 from rfl)) lay_X8 rfl 0 (by decide) fl_X8_10 (fun x hx => hx) (v := .ref (ja 0 0)) rfl dX8_trayCell_7 ?_
  refine lv_aload_n hx hb dX8_trayCell_10 rfl (lv_at hl 0 rfl) ?_
  refine cl_p (run_V hC (cJ_X0_carrierOf l G d0 mi Rf ja M E t (show t < nT M from (by show t < nT M; omega)) huq21 (by omega)) (As := [.ref (ja 7 t)]) (rest := []) rfl rfl ml_X8_120 im_X0_carrierOf se_X0_carrierOf ini_X0 cd_X0_carrierOf ⟨rfl, na_X0_carrierOf⟩ jB_blind (hW.recv hK (show jV M 0 0 from rfl) rfl) (jB_at hX hRf hW hS) hl.1 (Nat.le_of_ble_eq_true rfl) ⟨Nat.le_of_ble_eq_true rfl, Nat.le_of_ble_eq_true rfl⟩ ⟨Nat.le_refl _, Nat.le_refl _⟩ rfl dX8_trayCell_11) ?_
  rcases ho1 : carA M t with _ | k1
  · refine top_v (y := .null) (by first | rfl | (rw [ho1]; rfl)) ?_
    refine lv_astore_nN (lv' := [(3, .null), (2, .ref (ja 7 t)), (0, .ref (ja 8 0)), (1, .int (nI t))]) hx hb dX8_trayCell_14 rfl hl (by decide) rfl (fun ls hl => ?_)
    refine lv_aload_nN hx hb dX8_trayCell_15 rfl (lv_at hl 0 rfl) ?_
    refine lv_ifnonnullN hx hb dX8_trayCell_16 ?_
    refine lv_aload_n hx hb dX8_trayCell_19 rfl (lv_at hl 1 rfl) ?_
    refine r1_get hC hK.1 (hW.ob (show jV M 7 t from (by show t < nT M; omega))) lay_X7 rfl 1 (by decide) fl_X8_185 (fun x hx => hx) (v := .int (M 7 t)) rfl dX8_trayCell_20 ?_
    refine lv_goto (tgt := 30) hx hb dX8_trayCell_23 (by decide) ?_
    subst hQ
    exact rt_i hx hb hr hlk (by unfold tcC; rw [ho1]) dX8_trayCell_30
  · refine top_v (y := .ref (ja 5 k1)) (by first | rfl | (rw [ho1]; rfl)) ?_
    have hlt_k1 : k1 < nR M := carA_lt ho1
    refine lv_astore_n (lv' := [(3, .ref (ja 5 k1)), (2, .ref (ja 7 t)), (0, .ref (ja 8 0)), (1, .int (nI t))]) hx hb dX8_trayCell_14 rfl hl (by decide) rfl (fun ls hl => ?_)
    refine lv_aload_n hx hb dX8_trayCell_15 rfl (lv_at hl 0 rfl) ?_
    refine lv_ifnonnull (tgt := 26) hx hb dX8_trayCell_16 (by decide) ?_
    refine lv_aload_n hx hb dX8_trayCell_26 rfl (lv_at hl 0 rfl) ?_
    refine r1_get hC hK.1 (hW.ob (show jV M 5 k1 from hlt_k1)) lay_X5 rfl 2 (by decide) fl_X8_188 (fun x hx => hx) (v := .int (M 18 k1)) rfl dX8_trayCell_27 ?_
    subst hQ
    exact rt_i hx hb hr hlk (by unfold tcC; rw [ho1]) dX8_trayCell_30
set_option maxHeartbeats 4000000 in
set_option maxRecDepth 100000 in
theorem cJ_X8_trayCellX (l : Launch) (G : gG) (d0 mi : Nat) (Rf : Nat → Prop) (ja : Nat → Nat → Nat) (M : MS) (E : ES) (x : Int32) (hno : inB x (nI (nT M)) = false) (hl9 : l.stackTraces = false) : vx_Met l yX8_trayCell (wB yX8_trayCell cX8_trayCell 4 (some .int)) (rmL 6 1 6) (va_Pc [.ref (ja 8 0), .int x] (jT G d0 mi Rf ja M E)) xQ (xN xIOE) 1 6 (jA Rf) := by
  refine st_X (own := RX8) (by decide +kernel) rfl (Nat.le_of_ble_eq_true rfl) ?_
  intro p e s m below meth c ls args Q hQ hC hr hlk hex hl hP
  obtain ⟨⟨hW, hX, hRf⟩, hT9⟩ := hP
  have hK := hX.1
  have hx := hC.1
  have hb := hC.2.1
  have hl : lv_has ls 4 [(0, .ref (ja 8 0)), (1, .int x)] := hl
  have hS : va_S (jA Rf) s.heap s.heap [] := va_S.rf
  refine lv_aload_n hx hb dX8_trayCell_0 rfl (lv_at hl 0 rfl) ?_
  refine lv_iload_n hx hb dX8_trayCell_1 rfl (lv_at hl 1 rfl) ?_
  exact jx_call (run_VX hC (cJ_X8_findTrayX l G d0 mi Rf ja M E x (by assumption) hl9) (As := [.int x]) (rest := []) rfl rfl ml_X8_116 im_X8_findTray se_X8_findTray ini_X8 cd_X8_findTray ⟨rfl, na_X8_findTray⟩ jT_blind (hW.recv hK (show jV M 8 0 from rfl) rfl) (jT_at hX hT9 hRf hW hS) hl.1 (Nat.le_of_ble_eq_true rfl) ⟨Nat.le_of_ble_eq_true rfl, Nat.le_of_ble_eq_true rfl⟩ ⟨Nat.le_refl _, Nat.le_refl _⟩ rfl dX8_trayCell_2) hQ hex hlk
set_option maxHeartbeats 4000000 in
set_option maxRecDepth 100000 in
theorem cJ_X8_robotIn (l : Launch) (G : gG) (d0 mi : Nat) (Rf : Nat → Prop) (ja : Nat → Nat → Nat) (M : MS) (E : ES) (j : Nat) (h1 : j < 64) (huq18 : uq18 M) : Met l yX8_robotIn (wB yX8_robotIn cX8_robotIn 3 (some .int)) (rmL 6 0 0) (va_Pc [.ref (ja 8 0), .int (nI j)] (jB G d0 mi Rf ja M E)) (k2_QcV (.int (oI (rbA M (nI j))))) 0 0 fN := by
  refine st_N (own := RX8) (by decide +kernel) rfl (Nat.le_of_ble_eq_true rfl) ?_
  intro p e s m below meth c ls args Q hQ hC hr hlk hnm hl hP
  obtain ⟨hW, hX, hRf⟩ := hP
  have hK := hX.1
  have hx := hC.1
  have hb := hC.2.1
  have hl : lv_has ls 3 [(0, .ref (ja 8 0)), (1, .int (nI j))] := hl
  have hS : va_S (jA Rf) s.heap s.heap [] := va_S.rf
  refine lv_iload_n hx hb dX8_robotIn_0 rfl (lv_at hl 1 rfl) ?_
  refine cl_pv (run_S hC (cJ_X8_requireCell l j (by omega)) (As := [.int (nI j)]) (rest := []) rfl rfl ml_X8_36 sm_X8_requireCell ini_X8 cd_X8_requireCell na_X8_requireCell tB_blind (fun _ _ _ => trivial) hl.1 (Nat.le_of_ble_eq_true rfl) ⟨Nat.le_of_ble_eq_true rfl, Nat.le_of_ble_eq_true rfl⟩ ⟨Nat.le_refl _, Nat.le_refl _⟩ rfl dX8_robotIn_1) ?_
  refine lv_aload_n hx hb dX8_robotIn_4 rfl (lv_at hl 0 rfl) ?_
  refine r1_get hC hK.1 (hW.ob (show jV M 8 0 from rfl)) lay_X8 rfl 0 (by decide) fl_X8_10 (fun x hx => hx) (v := .ref (ja 0 0)) rfl dX8_robotIn_5 ?_
  refine lv_iload_n hx hb dX8_robotIn_8 rfl (lv_at hl 1 rfl) ?_
  refine cl_p (run_V hC (cJ_X0_robotAt l G d0 mi Rf ja M E (nI j) huq18) (As := [.int (nI j)]) (rest := []) rfl rfl ml_X8_56 im_X0_robotAt se_X0_robotAt ini_X0 cd_X0_robotAt ⟨rfl, na_X0_robotAt⟩ jB_blind (hW.recv hK (show jV M 0 0 from rfl) rfl) (jB_at hX hRf hW hS) hl.1 (Nat.le_of_ble_eq_true rfl) ⟨Nat.le_of_ble_eq_true rfl, Nat.le_of_ble_eq_true rfl⟩ ⟨Nat.le_refl _, Nat.le_refl _⟩ rfl dX8_robotIn_9) ?_
  rcases ho1 : rbA M (nI j) with _ | k1
  · refine top_v (y := .null) (by first | rfl | (rw [ho1]; rfl)) ?_
    refine lv_astore_nN (lv' := [(2, .null), (0, .ref (ja 8 0)), (1, .int (nI j))]) hx hb dX8_robotIn_12 rfl hl (by decide) rfl (fun ls hl => ?_)
    refine lv_aload_nN hx hb dX8_robotIn_13 rfl (lv_at hl 0 rfl) ?_
    refine lv_ifnonnullN hx hb dX8_robotIn_14 ?_
    refine lv_iconst (v := (-1)) hx hb dX8_robotIn_17 (by decide) ?_
    refine lv_goto (tgt := 25) hx hb dX8_robotIn_18 (by decide) ?_
    subst hQ
    exact rt_i hx hb hr hlk (by rw [ho1]; rfl) dX8_robotIn_25
  · refine top_v (y := .ref (ja 5 k1)) (by first | rfl | (rw [ho1]; rfl)) ?_
    have hlt_k1 := (lastE_lt ho1).1
    refine lv_astore_n (lv' := [(2, .ref (ja 5 k1)), (0, .ref (ja 8 0)), (1, .int (nI j))]) hx hb dX8_robotIn_12 rfl hl (by decide) rfl (fun ls hl => ?_)
    refine lv_aload_n hx hb dX8_robotIn_13 rfl (lv_at hl 0 rfl) ?_
    refine lv_ifnonnull (tgt := 21) hx hb dX8_robotIn_14 (by decide) ?_
    refine lv_aload_n hx hb dX8_robotIn_21 rfl (lv_at hl 0 rfl) ?_
    refine r1_get hC hK.1 (hW.ob (show jV M 5 k1 from hlt_k1)) lay_X5 rfl 0 (by decide) fl_X8_197 (fun x hx => hx) (v := .int (nI k1)) rfl dX8_robotIn_22 ?_
    subst hQ
    exact rt_i hx hb hr hlk (by rw [ho1]; rfl) dX8_robotIn_25
set_option maxHeartbeats 4000000 in
set_option maxRecDepth 100000 in
theorem cJ_X8_robotInX (l : Launch) (G : gG) (d0 mi : Nat) (Rf : Nat → Prop) (ja : Nat → Nat → Nat) (M : MS) (E : ES) (x : Int32) (hno : inB x 64 = false) (hl9 : l.stackTraces = false) : vx_Met l yX8_robotIn (wB yX8_robotIn cX8_robotIn 3 (some .int)) (rmL 6 1 6) (va_Pc [.ref (ja 8 0), .int x] (jT G d0 mi Rf ja M E)) xQ (xN xIAE) 1 6 (jA Rf) := by
  refine st_X (own := RX8) (by decide +kernel) rfl (Nat.le_of_ble_eq_true rfl) ?_
  intro p e s m below meth c ls args Q hQ hC hr hlk hex hl hP
  obtain ⟨⟨hW, hX, hRf⟩, hT9⟩ := hP
  have hK := hX.1
  have hx := hC.1
  have hb := hC.2.1
  have hl : lv_has ls 3 [(0, .ref (ja 8 0)), (1, .int x)] := hl
  have hS : va_S (jA Rf) s.heap s.heap [] := va_S.rf
  refine lv_iload_n hx hb dX8_robotIn_0 rfl (lv_at hl 1 rfl) ?_
  exact jx_call (run_SX hC (cJ_X8_requireCellX l G d0 mi Rf ja M E x (by assumption) hl9) (As := [.int x]) (rest := []) rfl rfl ml_X8_36 sm_X8_requireCell ini_X8 cd_X8_requireCell na_X8_requireCell jT_blind (jT_at hX hT9 hRf hW hS) hl.1 (Nat.le_of_ble_eq_true rfl) ⟨Nat.le_of_ble_eq_true rfl, Nat.le_of_ble_eq_true rfl⟩ ⟨Nat.le_refl _, Nat.le_refl _⟩ rfl dX8_robotIn_1) hQ hex hlk
set_option maxHeartbeats 4000000 in
set_option maxRecDepth 100000 in
theorem cJ_X8_cellOf (l : Launch) (G : gG) (d0 mi : Nat) (Rf : Nat → Prop) (ja : Nat → Nat → Nat) (M : MS) (E : ES) (r : Nat) (h1 : r < nR M) : Met l yX8_cellOf (wB yX8_cellOf cX8_cellOf 2 (some .int)) (rmL 6 0 0) (va_Pc [.ref (ja 8 0), .int (nI r)] (jB G d0 mi Rf ja M E)) (k2_QcV (.int (M 18 r))) 0 0 fN := by
  refine st_N (own := RX8) (by decide +kernel) rfl (Nat.le_of_ble_eq_true rfl) ?_
  intro p e s m below meth c ls args Q hQ hC hr hlk hnm hl hP
  obtain ⟨hW, hX, hRf⟩ := hP
  have hK := hX.1
  have hx := hC.1
  have hb := hC.2.1
  have hl : lv_has ls 2 [(0, .ref (ja 8 0)), (1, .int (nI r))] := hl
  have hS : va_S (jA Rf) s.heap s.heap [] := va_S.rf
  refine lv_aload_n hx hb dX8_cellOf_0 rfl (lv_at hl 0 rfl) ?_
  refine lv_iload_n hx hb dX8_cellOf_1 rfl (lv_at hl 1 rfl) ?_
  refine cl_p (run_V hC (cJ_X8_findRobot l G d0 mi Rf ja M E r (by omega)) (As := [.int (nI r)]) (rest := []) rfl rfl ml_X8_198 im_X8_findRobot se_X8_findRobot ini_X8 cd_X8_findRobot ⟨rfl, na_X8_findRobot⟩ jB_blind (hW.recv hK (show jV M 8 0 from rfl) rfl) (jB_at hX hRf hW hS) hl.1 (Nat.le_of_ble_eq_true rfl) ⟨Nat.le_of_ble_eq_true rfl, Nat.le_of_ble_eq_true rfl⟩ ⟨Nat.le_refl _, Nat.le_refl _⟩ rfl dX8_cellOf_2) ?_
  refine r1_get hC hK.1 (hW.ob (show jV M 5 r from (by show r < nR M; omega))) lay_X5 rfl 2 (by decide) fl_X8_188 (fun x hx => hx) (v := .int (M 18 r)) rfl dX8_cellOf_5 ?_
  subst hQ
  exact rt_i hx hb hr hlk (rfl) dX8_cellOf_8
set_option maxHeartbeats 4000000 in
set_option maxRecDepth 100000 in
theorem cJ_X8_state (l : Launch) (G : gG) (d0 mi : Nat) (Rf : Nat → Prop) (ja : Nat → Nat → Nat) (M : MS) (E : ES) (r : Nat) (h1 : r < nR M) : Met l yX8_state (wB yX8_state cX8_state 2 (some .int)) (rmL 6 0 0) (va_Pc [.ref (ja 8 0), .int (nI r)] (jB G d0 mi Rf ja M E)) (k2_QcV (.int (M 20 r))) 0 0 fN := by
  refine st_N (own := RX8) (by decide +kernel) rfl (Nat.le_of_ble_eq_true rfl) ?_
  intro p e s m below meth c ls args Q hQ hC hr hlk hnm hl hP
  obtain ⟨hW, hX, hRf⟩ := hP
  have hK := hX.1
  have hx := hC.1
  have hb := hC.2.1
  have hl : lv_has ls 2 [(0, .ref (ja 8 0)), (1, .int (nI r))] := hl
  have hS : va_S (jA Rf) s.heap s.heap [] := va_S.rf
  refine lv_aload_n hx hb dX8_state_0 rfl (lv_at hl 0 rfl) ?_
  refine lv_iload_n hx hb dX8_state_1 rfl (lv_at hl 1 rfl) ?_
  refine cl_p (run_V hC (cJ_X8_findRobot l G d0 mi Rf ja M E r (by omega)) (As := [.int (nI r)]) (rest := []) rfl rfl ml_X8_198 im_X8_findRobot se_X8_findRobot ini_X8 cd_X8_findRobot ⟨rfl, na_X8_findRobot⟩ jB_blind (hW.recv hK (show jV M 8 0 from rfl) rfl) (jB_at hX hRf hW hS) hl.1 (Nat.le_of_ble_eq_true rfl) ⟨Nat.le_of_ble_eq_true rfl, Nat.le_of_ble_eq_true rfl⟩ ⟨Nat.le_refl _, Nat.le_refl _⟩ rfl dX8_state_2) ?_
  refine r1_get hC hK.1 (hW.ob (show jV M 5 r from (by show r < nR M; omega))) lay_X5 rfl 3 (by decide) fl_X8_201 (fun x hx => hx) (v := .int (M 20 r)) rfl dX8_state_5 ?_
  subst hQ
  exact rt_i hx hb hr hlk (rfl) dX8_state_8
set_option maxHeartbeats 4000000 in
set_option maxRecDepth 100000 in
theorem cJ_X8_asked (l : Launch) (G : gG) (d0 mi : Nat) (Rf : Nat → Prop) (ja : Nat → Nat → Nat) (M : MS) (E : ES) (r : Nat) (h1 : r < nR M) : Met l yX8_asked (wB yX8_asked cX8_asked 2 (some .int)) (rmL 6 0 0) (va_Pc [.ref (ja 8 0), .int (nI r)] (jB G d0 mi Rf ja M E)) (k2_QcV (.int (M 24 r))) 0 0 fN := by
  refine st_N (own := RX8) (by decide +kernel) rfl (Nat.le_of_ble_eq_true rfl) ?_
  intro p e s m below meth c ls args Q hQ hC hr hlk hnm hl hP
  obtain ⟨hW, hX, hRf⟩ := hP
  have hK := hX.1
  have hx := hC.1
  have hb := hC.2.1
  have hl : lv_has ls 2 [(0, .ref (ja 8 0)), (1, .int (nI r))] := hl
  have hS : va_S (jA Rf) s.heap s.heap [] := va_S.rf
  refine lv_aload_n hx hb dX8_asked_0 rfl (lv_at hl 0 rfl) ?_
  refine lv_iload_n hx hb dX8_asked_1 rfl (lv_at hl 1 rfl) ?_
  refine cl_p (run_V hC (cJ_X8_findRobot l G d0 mi Rf ja M E r (by omega)) (As := [.int (nI r)]) (rest := []) rfl rfl ml_X8_198 im_X8_findRobot se_X8_findRobot ini_X8 cd_X8_findRobot ⟨rfl, na_X8_findRobot⟩ jB_blind (hW.recv hK (show jV M 8 0 from rfl) rfl) (jB_at hX hRf hW hS) hl.1 (Nat.le_of_ble_eq_true rfl) ⟨Nat.le_of_ble_eq_true rfl, Nat.le_of_ble_eq_true rfl⟩ ⟨Nat.le_refl _, Nat.le_refl _⟩ rfl dX8_asked_2) ?_
  refine r1_get hC hK.1 (hW.ob (show jV M 5 r from (by show r < nR M; omega))) lay_X5 rfl 6 (by decide) fl_X8_225 (fun x hx => hx) (v := .int (M 24 r)) rfl dX8_asked_5 ?_
  subst hQ
  exact rt_i hx hb hr hlk (rfl) dX8_asked_8
set_option maxHeartbeats 4000000 in
set_option maxRecDepth 100000 in
theorem cJ_X8_trayOf (l : Launch) (G : gG) (d0 mi : Nat) (Rf : Nat → Prop) (ja : Nat → Nat → Nat) (M : MS) (E : ES) (r : Nat) (h1 : r < nR M) : Met l yX8_trayOf (wB yX8_trayOf cX8_trayOf 2 (some .int)) (rmL 6 0 0) (va_Pc [.ref (ja 8 0), .int (nI r)] (jB G d0 mi Rf ja M E)) (k2_QcV (.int (M 21 r))) 0 0 fN := by
  refine st_N (own := RX8) (by decide +kernel) rfl (Nat.le_of_ble_eq_true rfl) ?_
  intro p e s m below meth c ls args Q hQ hC hr hlk hnm hl hP
  obtain ⟨hW, hX, hRf⟩ := hP
  have hK := hX.1
  have hx := hC.1
  have hb := hC.2.1
  have hl : lv_has ls 2 [(0, .ref (ja 8 0)), (1, .int (nI r))] := hl
  have hS : va_S (jA Rf) s.heap s.heap [] := va_S.rf
  refine lv_aload_n hx hb dX8_trayOf_0 rfl (lv_at hl 0 rfl) ?_
  refine lv_iload_n hx hb dX8_trayOf_1 rfl (lv_at hl 1 rfl) ?_
  refine cl_p (run_V hC (cJ_X8_findRobot l G d0 mi Rf ja M E r (by omega)) (As := [.int (nI r)]) (rest := []) rfl rfl ml_X8_198 im_X8_findRobot se_X8_findRobot ini_X8 cd_X8_findRobot ⟨rfl, na_X8_findRobot⟩ jB_blind (hW.recv hK (show jV M 8 0 from rfl) rfl) (jB_at hX hRf hW hS) hl.1 (Nat.le_of_ble_eq_true rfl) ⟨Nat.le_of_ble_eq_true rfl, Nat.le_of_ble_eq_true rfl⟩ ⟨Nat.le_refl _, Nat.le_refl _⟩ rfl dX8_trayOf_2) ?_
  rcases (hW.pt.1 _ (show r < nR M from (by show r < nR M; omega))).1 with hq1 | ⟨t1, ht1, hq1⟩
  · refine r1_get hC hK.1 (hW.ob (show jV M 5 r from (by show r < nR M; omega))) lay_X5 rfl 4 (by decide) fl_X8_212 (fun x hx => hx) (v := .null) (show some (va_rf (jp ja 7 (M 21 r))) = _ by rw [show M 21 r = -1 from hq1, jp_n]; rfl) dX8_trayOf_5 ?_
    refine cl_p (run_S hC (cJ_X8_numberOfN l) (As := [.null]) (rest := []) rfl rfl ml_X8_216 sm_X8_numberOf ini_X8 cd_X8_numberOf na_X8_numberOf tB_blind (fun _ _ _ => trivial) hl.1 (Nat.le_of_ble_eq_true rfl) ⟨Nat.le_of_ble_eq_true rfl, Nat.le_of_ble_eq_true rfl⟩ ⟨Nat.le_refl _, Nat.le_refl _⟩ rfl dX8_trayOf_8) ?_
    subst hQ
    exact rt_i hx hb hr hlk (by rw [hq1]) dX8_trayOf_11
  · have hb1_ := hW.cnt.T16
    refine r1_get hC hK.1 (hW.ob (show jV M 5 r from (by show r < nR M; omega))) lay_X5 rfl 4 (by decide) fl_X8_212 (fun x hx => hx) (v := .ref (ja 7 t1)) (show some (va_rf (jp ja 7 (M 21 r))) = _ by rw [show M 21 r = nI t1 from hq1, jp_s _ (by omega)]; rfl) dX8_trayOf_5 ?_
    refine cl_p (run_S hC (cJ_X8_numberOf l G d0 mi Rf ja M E t1 (show t1 < nT M from ht1)) (As := [.ref (ja 7 t1)]) (rest := []) rfl rfl ml_X8_216 sm_X8_numberOf ini_X8 cd_X8_numberOf na_X8_numberOf jB_blind (jB_at hX hRf hW hS) hl.1 (Nat.le_of_ble_eq_true rfl) ⟨Nat.le_of_ble_eq_true rfl, Nat.le_of_ble_eq_true rfl⟩ ⟨Nat.le_refl _, Nat.le_refl _⟩ rfl dX8_trayOf_8) ?_
    subst hQ
    exact rt_i hx hb hr hlk (by rw [hq1]) dX8_trayOf_11
set_option maxHeartbeats 4000000 in
set_option maxRecDepth 100000 in
theorem cJ_X8_cellOfX (l : Launch) (G : gG) (d0 mi : Nat) (Rf : Nat → Prop) (ja : Nat → Nat → Nat) (M : MS) (E : ES) (x : Int32) (hno : inB x (nI (nR M)) = false) (hl9 : l.stackTraces = false) : vx_Met l yX8_cellOf (wB yX8_cellOf cX8_cellOf 2 (some .int)) (rmL 6 1 6) (va_Pc [.ref (ja 8 0), .int x] (jT G d0 mi Rf ja M E)) xQ (xN xIOE) 1 6 (jA Rf) := by
  refine st_X (own := RX8) (by decide +kernel) rfl (Nat.le_of_ble_eq_true rfl) ?_
  intro p e s m below meth c ls args Q hQ hC hr hlk hex hl hP
  obtain ⟨⟨hW, hX, hRf⟩, hT9⟩ := hP
  have hK := hX.1
  have hx := hC.1
  have hb := hC.2.1
  have hl : lv_has ls 2 [(0, .ref (ja 8 0)), (1, .int x)] := hl
  have hS : va_S (jA Rf) s.heap s.heap [] := va_S.rf
  refine lv_aload_n hx hb dX8_cellOf_0 rfl (lv_at hl 0 rfl) ?_
  refine lv_iload_n hx hb dX8_cellOf_1 rfl (lv_at hl 1 rfl) ?_
  exact jx_call (run_VX hC (cJ_X8_findRobotX l G d0 mi Rf ja M E x (by assumption) hl9) (As := [.int x]) (rest := []) rfl rfl ml_X8_198 im_X8_findRobot se_X8_findRobot ini_X8 cd_X8_findRobot ⟨rfl, na_X8_findRobot⟩ jT_blind (hW.recv hK (show jV M 8 0 from rfl) rfl) (jT_at hX hT9 hRf hW hS) hl.1 (Nat.le_of_ble_eq_true rfl) ⟨Nat.le_of_ble_eq_true rfl, Nat.le_of_ble_eq_true rfl⟩ ⟨Nat.le_refl _, Nat.le_refl _⟩ rfl dX8_cellOf_2) hQ hex hlk
set_option maxHeartbeats 4000000 in
set_option maxRecDepth 100000 in
theorem cJ_X8_stateX (l : Launch) (G : gG) (d0 mi : Nat) (Rf : Nat → Prop) (ja : Nat → Nat → Nat) (M : MS) (E : ES) (x : Int32) (hno : inB x (nI (nR M)) = false) (hl9 : l.stackTraces = false) : vx_Met l yX8_state (wB yX8_state cX8_state 2 (some .int)) (rmL 6 1 6) (va_Pc [.ref (ja 8 0), .int x] (jT G d0 mi Rf ja M E)) xQ (xN xIOE) 1 6 (jA Rf) := by
  refine st_X (own := RX8) (by decide +kernel) rfl (Nat.le_of_ble_eq_true rfl) ?_
  intro p e s m below meth c ls args Q hQ hC hr hlk hex hl hP
  obtain ⟨⟨hW, hX, hRf⟩, hT9⟩ := hP
  have hK := hX.1
  have hx := hC.1
  have hb := hC.2.1
  have hl : lv_has ls 2 [(0, .ref (ja 8 0)), (1, .int x)] := hl
  have hS : va_S (jA Rf) s.heap s.heap [] := va_S.rf
  refine lv_aload_n hx hb dX8_state_0 rfl (lv_at hl 0 rfl) ?_
  refine lv_iload_n hx hb dX8_state_1 rfl (lv_at hl 1 rfl) ?_
  exact jx_call (run_VX hC (cJ_X8_findRobotX l G d0 mi Rf ja M E x (by assumption) hl9) (As := [.int x]) (rest := []) rfl rfl ml_X8_198 im_X8_findRobot se_X8_findRobot ini_X8 cd_X8_findRobot ⟨rfl, na_X8_findRobot⟩ jT_blind (hW.recv hK (show jV M 8 0 from rfl) rfl) (jT_at hX hT9 hRf hW hS) hl.1 (Nat.le_of_ble_eq_true rfl) ⟨Nat.le_of_ble_eq_true rfl, Nat.le_of_ble_eq_true rfl⟩ ⟨Nat.le_refl _, Nat.le_refl _⟩ rfl dX8_state_2) hQ hex hlk
set_option maxHeartbeats 4000000 in
set_option maxRecDepth 100000 in
theorem cJ_X8_trayOfX (l : Launch) (G : gG) (d0 mi : Nat) (Rf : Nat → Prop) (ja : Nat → Nat → Nat) (M : MS) (E : ES) (x : Int32) (hno : inB x (nI (nR M)) = false) (hl9 : l.stackTraces = false) : vx_Met l yX8_trayOf (wB yX8_trayOf cX8_trayOf 2 (some .int)) (rmL 6 1 6) (va_Pc [.ref (ja 8 0), .int x] (jT G d0 mi Rf ja M E)) xQ (xN xIOE) 1 6 (jA Rf) := by
  refine st_X (own := RX8) (by decide +kernel) rfl (Nat.le_of_ble_eq_true rfl) ?_
  intro p e s m below meth c ls args Q hQ hC hr hlk hex hl hP
  obtain ⟨⟨hW, hX, hRf⟩, hT9⟩ := hP
  have hK := hX.1
  have hx := hC.1
  have hb := hC.2.1
  have hl : lv_has ls 2 [(0, .ref (ja 8 0)), (1, .int x)] := hl
  have hS : va_S (jA Rf) s.heap s.heap [] := va_S.rf
  refine lv_aload_n hx hb dX8_trayOf_0 rfl (lv_at hl 0 rfl) ?_
  refine lv_iload_n hx hb dX8_trayOf_1 rfl (lv_at hl 1 rfl) ?_
  exact jx_call (run_VX hC (cJ_X8_findRobotX l G d0 mi Rf ja M E x (by assumption) hl9) (As := [.int x]) (rest := []) rfl rfl ml_X8_198 im_X8_findRobot se_X8_findRobot ini_X8 cd_X8_findRobot ⟨rfl, na_X8_findRobot⟩ jT_blind (hW.recv hK (show jV M 8 0 from rfl) rfl) (jT_at hX hT9 hRf hW hS) hl.1 (Nat.le_of_ble_eq_true rfl) ⟨Nat.le_of_ble_eq_true rfl, Nat.le_of_ble_eq_true rfl⟩ ⟨Nat.le_refl _, Nat.le_refl _⟩ rfl dX8_trayOf_2) hQ hex hlk
set_option maxHeartbeats 4000000 in
set_option maxRecDepth 100000 in
theorem cJ_X8_askedX (l : Launch) (G : gG) (d0 mi : Nat) (Rf : Nat → Prop) (ja : Nat → Nat → Nat) (M : MS) (E : ES) (x : Int32) (hno : inB x (nI (nR M)) = false) (hl9 : l.stackTraces = false) : vx_Met l yX8_asked (wB yX8_asked cX8_asked 2 (some .int)) (rmL 6 1 6) (va_Pc [.ref (ja 8 0), .int x] (jT G d0 mi Rf ja M E)) xQ (xN xIOE) 1 6 (jA Rf) := by
  refine st_X (own := RX8) (by decide +kernel) rfl (Nat.le_of_ble_eq_true rfl) ?_
  intro p e s m below meth c ls args Q hQ hC hr hlk hex hl hP
  obtain ⟨⟨hW, hX, hRf⟩, hT9⟩ := hP
  have hK := hX.1
  have hx := hC.1
  have hb := hC.2.1
  have hl : lv_has ls 2 [(0, .ref (ja 8 0)), (1, .int x)] := hl
  have hS : va_S (jA Rf) s.heap s.heap [] := va_S.rf
  refine lv_aload_n hx hb dX8_asked_0 rfl (lv_at hl 0 rfl) ?_
  refine lv_iload_n hx hb dX8_asked_1 rfl (lv_at hl 1 rfl) ?_
  exact jx_call (run_VX hC (cJ_X8_findRobotX l G d0 mi Rf ja M E x (by assumption) hl9) (As := [.int x]) (rest := []) rfl rfl ml_X8_198 im_X8_findRobot se_X8_findRobot ini_X8 cd_X8_findRobot ⟨rfl, na_X8_findRobot⟩ jT_blind (hW.recv hK (show jV M 8 0 from rfl) rfl) (jT_at hX hT9 hRf hW hS) hl.1 (Nat.le_of_ble_eq_true rfl) ⟨Nat.le_of_ble_eq_true rfl, Nat.le_of_ble_eq_true rfl⟩ ⟨Nat.le_refl _, Nat.le_refl _⟩ rfl dX8_asked_2) hQ hex hlk
set_option maxHeartbeats 4000000 in
set_option maxRecDepth 100000 in
theorem cJ_X8_pickedFrom (l : Launch) (G : gG) (d0 mi : Nat) (Rf : Nat → Prop) (ja : Nat → Nat → Nat) (M : MS) (E : ES) (i : Nat) (h1 : i < nP M) (hp15 : nP M ≤ 1500) : Met l yX8_pickedFrom (wB yX8_pickedFrom cX8_pickedFrom 2 (some .int)) (rmL 6 0 0) (va_Pc [.ref (ja 8 0), .int (nI i)] (jB G d0 mi Rf ja M E)) (k2_QcV (.int (M 35 i))) 0 0 fN := by
  refine st_N (own := RX8) (by decide +kernel) rfl (Nat.le_of_ble_eq_true rfl) ?_
  intro p e s m below meth c ls args Q hQ hC hr hlk hnm hl hP
  obtain ⟨hW, hX, hRf⟩ := hP
  have hK := hX.1
  have hx := hC.1
  have hb := hC.2.1
  have hl : lv_has ls 2 [(0, .ref (ja 8 0)), (1, .int (nI i))] := hl
  have hS : va_S (jA Rf) s.heap s.heap [] := va_S.rf
  refine lv_aload_n hx hb dX8_pickedFrom_0 rfl (lv_at hl 0 rfl) ?_
  refine lv_iload_n hx hb dX8_pickedFrom_1 rfl (lv_at hl 1 rfl) ?_
  refine cl_p (run_V hC (cJ_X8_findPick l G d0 mi Rf ja M E i (by omega) (by omega)) (As := [.int (nI i)]) (rest := []) rfl rfl ml_X8_276 im_X8_findPick se_X8_findPick ini_X8 cd_X8_findPick ⟨rfl, na_X8_findPick⟩ jB_blind (hW.recv hK (show jV M 8 0 from rfl) rfl) (jB_at hX hRf hW hS) hl.1 (Nat.le_of_ble_eq_true rfl) ⟨Nat.le_of_ble_eq_true rfl, Nat.le_of_ble_eq_true rfl⟩ ⟨Nat.le_refl _, Nat.le_refl _⟩ rfl dX8_pickedFrom_2) ?_
  refine r1_get hC hK.1 (hW.ob (show jV M 4 i from (by show i < nP M; omega))) lay_X4 rfl 0 (by decide) fl_X8_275 (fun x hx => hx) (v := .ref (ja 7 (ix (M 35 i)))) rfl dX8_pickedFrom_5 ?_
  refine r1_get hC hK.1 (hW.ob (show jV M 7 (ix (M 35 i)) from (hW.pk_t (by omega)).1)) lay_X7 rfl 0 (by decide) fl_X8_115 (fun x hx => hx) (v := .int (nI (ix (M 35 i)))) rfl dX8_pickedFrom_8 ?_
  subst hQ
  exact rt_i hx hb hr hlk ((hW.pk_t h1).2.symm) dX8_pickedFrom_11
set_option maxHeartbeats 4000000 in
set_option maxRecDepth 100000 in
theorem cJ_X8_pickedFromX (l : Launch) (G : gG) (d0 mi : Nat) (Rf : Nat → Prop) (ja : Nat → Nat → Nat) (M : MS) (E : ES) (x : Int32) (hno : inB x (nI (nP M)) = false) (hp15 : nP M ≤ 1500) (hl9 : l.stackTraces = false) : vx_Met l yX8_pickedFrom (wB yX8_pickedFrom cX8_pickedFrom 2 (some .int)) (rmL 6 1 6) (va_Pc [.ref (ja 8 0), .int x] (jT G d0 mi Rf ja M E)) xQ (xN xIOE) 1 6 (jA Rf) := by
  refine st_X (own := RX8) (by decide +kernel) rfl (Nat.le_of_ble_eq_true rfl) ?_
  intro p e s m below meth c ls args Q hQ hC hr hlk hex hl hP
  obtain ⟨⟨hW, hX, hRf⟩, hT9⟩ := hP
  have hK := hX.1
  have hx := hC.1
  have hb := hC.2.1
  have hl : lv_has ls 2 [(0, .ref (ja 8 0)), (1, .int x)] := hl
  have hS : va_S (jA Rf) s.heap s.heap [] := va_S.rf
  refine lv_aload_n hx hb dX8_pickedFrom_0 rfl (lv_at hl 0 rfl) ?_
  refine lv_iload_n hx hb dX8_pickedFrom_1 rfl (lv_at hl 1 rfl) ?_
  exact jx_call (run_VX hC (cJ_X8_findPickX l G d0 mi Rf ja M E x (by assumption) (by omega) hl9) (As := [.int x]) (rest := []) rfl rfl ml_X8_276 im_X8_findPick se_X8_findPick ini_X8 cd_X8_findPick ⟨rfl, na_X8_findPick⟩ jT_blind (hW.recv hK (show jV M 8 0 from rfl) rfl) (jT_at hX hT9 hRf hW hS) hl.1 (Nat.le_of_ble_eq_true rfl) ⟨Nat.le_of_ble_eq_true rfl, Nat.le_of_ble_eq_true rfl⟩ ⟨Nat.le_refl _, Nat.le_refl _⟩ rfl dX8_pickedFrom_2) hQ hex hlk
set_option maxHeartbeats 4000000 in
set_option maxRecDepth 100000 in
theorem cJ_X8_pickedFor (l : Launch) (G : gG) (d0 mi : Nat) (Rf : Nat → Prop) (ja : Nat → Nat → Nat) (M : MS) (E : ES) (i : Nat) (h1 : i < nP M) (hp15 : nP M ≤ 1500) : Met l yX8_pickedFor (wB yX8_pickedFor cX8_pickedFor 2 (some .int)) (rmL 6 0 0) (va_Pc [.ref (ja 8 0), .int (nI i)] (jB G d0 mi Rf ja M E)) (k2_QcV (.int (M 36 i))) 0 0 fN := by
  refine st_N (own := RX8) (by decide +kernel) rfl (Nat.le_of_ble_eq_true rfl) ?_
  intro p e s m below meth c ls args Q hQ hC hr hlk hnm hl hP
  obtain ⟨hW, hX, hRf⟩ := hP
  have hK := hX.1
  have hx := hC.1
  have hb := hC.2.1
  have hl : lv_has ls 2 [(0, .ref (ja 8 0)), (1, .int (nI i))] := hl
  have hS : va_S (jA Rf) s.heap s.heap [] := va_S.rf
  refine lv_aload_n hx hb dX8_pickedFor_0 rfl (lv_at hl 0 rfl) ?_
  refine lv_iload_n hx hb dX8_pickedFor_1 rfl (lv_at hl 1 rfl) ?_
  refine cl_p (run_V hC (cJ_X8_findPick l G d0 mi Rf ja M E i (by omega) (by omega)) (As := [.int (nI i)]) (rest := []) rfl rfl ml_X8_276 im_X8_findPick se_X8_findPick ini_X8 cd_X8_findPick ⟨rfl, na_X8_findPick⟩ jB_blind (hW.recv hK (show jV M 8 0 from rfl) rfl) (jB_at hX hRf hW hS) hl.1 (Nat.le_of_ble_eq_true rfl) ⟨Nat.le_of_ble_eq_true rfl, Nat.le_of_ble_eq_true rfl⟩ ⟨Nat.le_refl _, Nat.le_refl _⟩ rfl dX8_pickedFor_2) ?_
  refine r1_get hC hK.1 (hW.ob (show jV M 4 i from (by show i < nP M; omega))) lay_X4 rfl 1 (by decide) fl_X8_280 (fun x hx => hx) (v := .ref (ja 3 (ix (M 36 i)))) rfl dX8_pickedFor_5 ?_
  refine r1_get hC hK.1 (hW.ob (show jV M 3 (ix (M 36 i)) from (hW.pk_o (by omega)).1)) lay_X3 rfl 0 (by decide) fl_X8_135 (fun x hx => hx) (v := .int (nI (ix (M 36 i)))) rfl dX8_pickedFor_8 ?_
  subst hQ
  exact rt_i hx hb hr hlk ((hW.pk_o h1).2.symm) dX8_pickedFor_11
set_option maxHeartbeats 4000000 in
set_option maxRecDepth 100000 in
theorem cJ_X8_pickedForX (l : Launch) (G : gG) (d0 mi : Nat) (Rf : Nat → Prop) (ja : Nat → Nat → Nat) (M : MS) (E : ES) (x : Int32) (hno : inB x (nI (nP M)) = false) (hp15 : nP M ≤ 1500) (hl9 : l.stackTraces = false) : vx_Met l yX8_pickedFor (wB yX8_pickedFor cX8_pickedFor 2 (some .int)) (rmL 6 1 6) (va_Pc [.ref (ja 8 0), .int x] (jT G d0 mi Rf ja M E)) xQ (xN xIOE) 1 6 (jA Rf) := by
  refine st_X (own := RX8) (by decide +kernel) rfl (Nat.le_of_ble_eq_true rfl) ?_
  intro p e s m below meth c ls args Q hQ hC hr hlk hex hl hP
  obtain ⟨⟨hW, hX, hRf⟩, hT9⟩ := hP
  have hK := hX.1
  have hx := hC.1
  have hb := hC.2.1
  have hl : lv_has ls 2 [(0, .ref (ja 8 0)), (1, .int x)] := hl
  have hS : va_S (jA Rf) s.heap s.heap [] := va_S.rf
  refine lv_aload_n hx hb dX8_pickedFor_0 rfl (lv_at hl 0 rfl) ?_
  refine lv_iload_n hx hb dX8_pickedFor_1 rfl (lv_at hl 1 rfl) ?_
  exact jx_call (run_VX hC (cJ_X8_findPickX l G d0 mi Rf ja M E x (by assumption) (by omega) hl9) (As := [.int x]) (rest := []) rfl rfl ml_X8_276 im_X8_findPick se_X8_findPick ini_X8 cd_X8_findPick ⟨rfl, na_X8_findPick⟩ jT_blind (hW.recv hK (show jV M 8 0 from rfl) rfl) (jT_at hX hT9 hRf hW hS) hl.1 (Nat.le_of_ble_eq_true rfl) ⟨Nat.le_of_ble_eq_true rfl, Nat.le_of_ble_eq_true rfl⟩ ⟨Nat.le_refl _, Nat.le_refl _⟩ rfl dX8_pickedFor_2) hQ hex hlk
set_option maxHeartbeats 4000000 in
set_option maxRecDepth 100000 in
theorem cJ_X8_pickedIn (l : Launch) (G : gG) (d0 mi : Nat) (Rf : Nat → Prop) (ja : Nat → Nat → Nat) (M : MS) (E : ES) (i : Nat) (h1 : i < nP M) (hp15 : nP M ≤ 1500) : Met l yX8_pickedIn (wB yX8_pickedIn cX8_pickedIn 2 (some .int)) (rmL 6 0 0) (va_Pc [.ref (ja 8 0), .int (nI i)] (jB G d0 mi Rf ja M E)) (k2_QcV (.int (M 37 i))) 0 0 fN := by
  refine st_N (own := RX8) (by decide +kernel) rfl (Nat.le_of_ble_eq_true rfl) ?_
  intro p e s m below meth c ls args Q hQ hC hr hlk hnm hl hP
  obtain ⟨hW, hX, hRf⟩ := hP
  have hK := hX.1
  have hx := hC.1
  have hb := hC.2.1
  have hl : lv_has ls 2 [(0, .ref (ja 8 0)), (1, .int (nI i))] := hl
  have hS : va_S (jA Rf) s.heap s.heap [] := va_S.rf
  refine lv_aload_n hx hb dX8_pickedIn_0 rfl (lv_at hl 0 rfl) ?_
  refine lv_iload_n hx hb dX8_pickedIn_1 rfl (lv_at hl 1 rfl) ?_
  refine cl_p (run_V hC (cJ_X8_findPick l G d0 mi Rf ja M E i (by omega) (by omega)) (As := [.int (nI i)]) (rest := []) rfl rfl ml_X8_276 im_X8_findPick se_X8_findPick ini_X8 cd_X8_findPick ⟨rfl, na_X8_findPick⟩ jB_blind (hW.recv hK (show jV M 8 0 from rfl) rfl) (jB_at hX hRf hW hS) hl.1 (Nat.le_of_ble_eq_true rfl) ⟨Nat.le_of_ble_eq_true rfl, Nat.le_of_ble_eq_true rfl⟩ ⟨Nat.le_refl _, Nat.le_refl _⟩ rfl dX8_pickedIn_2) ?_
  refine r1_get hC hK.1 (hW.ob (show jV M 4 i from (by show i < nP M; omega))) lay_X4 rfl 2 (by decide) fl_X8_284 (fun x hx => hx) (v := .int (M 37 i)) rfl dX8_pickedIn_5 ?_
  subst hQ
  exact rt_i hx hb hr hlk (rfl) dX8_pickedIn_8
set_option maxHeartbeats 4000000 in
set_option maxRecDepth 100000 in
theorem cJ_X8_pickedInX (l : Launch) (G : gG) (d0 mi : Nat) (Rf : Nat → Prop) (ja : Nat → Nat → Nat) (M : MS) (E : ES) (x : Int32) (hno : inB x (nI (nP M)) = false) (hp15 : nP M ≤ 1500) (hl9 : l.stackTraces = false) : vx_Met l yX8_pickedIn (wB yX8_pickedIn cX8_pickedIn 2 (some .int)) (rmL 6 1 6) (va_Pc [.ref (ja 8 0), .int x] (jT G d0 mi Rf ja M E)) xQ (xN xIOE) 1 6 (jA Rf) := by
  refine st_X (own := RX8) (by decide +kernel) rfl (Nat.le_of_ble_eq_true rfl) ?_
  intro p e s m below meth c ls args Q hQ hC hr hlk hex hl hP
  obtain ⟨⟨hW, hX, hRf⟩, hT9⟩ := hP
  have hK := hX.1
  have hx := hC.1
  have hb := hC.2.1
  have hl : lv_has ls 2 [(0, .ref (ja 8 0)), (1, .int x)] := hl
  have hS : va_S (jA Rf) s.heap s.heap [] := va_S.rf
  refine lv_aload_n hx hb dX8_pickedIn_0 rfl (lv_at hl 0 rfl) ?_
  refine lv_iload_n hx hb dX8_pickedIn_1 rfl (lv_at hl 1 rfl) ?_
  exact jx_call (run_VX hC (cJ_X8_findPickX l G d0 mi Rf ja M E x (by assumption) (by omega) hl9) (As := [.int x]) (rest := []) rfl rfl ml_X8_276 im_X8_findPick se_X8_findPick ini_X8 cd_X8_findPick ⟨rfl, na_X8_findPick⟩ jT_blind (hW.recv hK (show jV M 8 0 from rfl) rfl) (jT_at hX hT9 hRf hW hS) hl.1 (Nat.le_of_ble_eq_true rfl) ⟨Nat.le_of_ble_eq_true rfl, Nat.le_of_ble_eq_true rfl⟩ ⟨Nat.le_refl _, Nat.le_refl _⟩ rfl dX8_pickedIn_2) hQ hex hlk
set_option maxHeartbeats 4000000 in
set_option maxRecDepth 100000 in
theorem cJ_X8_stock (l : Launch) (G : gG) (d0 mi : Nat) (Rf : Nat → Prop) (ja : Nat → Nat → Nat) (M : MS) (E : ES) (g : Nat) (h1 : g < 6) : Met l yX8_stock (wB yX8_stock cX8_stock 5 (some .int)) (rmL 4 0 0) (va_Pc [.ref (ja 8 0), .int (nI g)] (jB G d0 mi Rf ja M E)) (k2_QcV (.int (stkGo M (nI g) (nT M)))) 0 0 fN := by
  refine st_N (own := RX8) (by decide +kernel) rfl (Nat.le_of_ble_eq_true rfl) ?_
  intro p e s m below meth c ls args Q hQ hC hr hlk hnm hl hP
  obtain ⟨hW, hX, hRf⟩ := hP
  have hK := hX.1
  have hx := hC.1
  have hb := hC.2.1
  have hl : lv_has ls 5 [(0, .ref (ja 8 0)), (1, .int (nI g))] := hl
  have hS : va_S (jA Rf) s.heap s.heap [] := va_S.rf
  refine lv_iload_n hx hb dX8_stock_0 rfl (lv_at hl 1 rfl) ?_
  refine cl_pv (run_S hC (cJ_X8_requireGood l g (by omega)) (As := [.int (nI g)]) (rest := []) rfl rfl ml_X8_99 sm_X8_requireGood ini_X8 cd_X8_requireGood na_X8_requireGood tB_blind (fun _ _ _ => trivial) hl.1 (Nat.le_of_ble_eq_true rfl) ⟨Nat.le_of_ble_eq_true rfl, Nat.le_of_ble_eq_true rfl⟩ ⟨Nat.le_refl _, Nat.le_refl _⟩ rfl dX8_stock_1) ?_
  refine lv_iconst (v := 0) hx hb dX8_stock_4 (by decide) ?_
  refine lv_istore_n (lv' := [(2, .int 0), (0, .ref (ja 8 0)), (1, .int (nI g))]) hx hb dX8_stock_5 rfl hl (by decide) rfl (fun ls hl => ?_)
  refine lv_iconst (v := 0) hx hb dX8_stock_6 (by decide) ?_
  refine lv_istore_n (lv' := [(3, .int 0), (2, .int 0), (0, .ref (ja 8 0)), (1, .int (nI g))]) hx hb dX8_stock_7 rfl hl (by decide) rfl (fun ls hl => ?_)
  have loop1 : ∀ (n_ : Nat) (i : Nat) (sm : Int32) (hi : i ≤ nT M) (hsm : sm = stkGo M (nI g) i) (ls : Array Slot), nT M - i < n_ → lv_has ls 5 [(3, .int (nI i)), (2, .int sm), (0, .ref (ja 8 0)), (1, .int (nI g))] → W p l e (rmL 4 0 0) s m args below meth c s.heap [] 0 0 Q (F0 m 8 ls []) := by
    intro n_
    induction n_ with
    | zero => intro i sm hi hsm ls hm hl; omega
    | succ n_ ih1 =>
      intro i sm hi hsm ls hm hl
      have h6 := hW.cnt.T16
      refine lv_iload_n hx hb dX8_stock_8 rfl (lv_at hl 0 rfl) ?_
      refine lv_aload_n hx hb dX8_stock_9 rfl (lv_at hl 2 rfl) ?_
      refine r1_get hC hK.1 (hW.ob (show jV M 8 0 from rfl)) lay_X8 rfl 2 (by decide) fl_X8_23 (fun x hx => hx) (v := .ref (ja 10 1)) rfl dX8_stock_10 ?_
      refine jw_size hC hK hW.1 (i := 1) (Or.inl (by decide)) ml_X8_81 hl.1 (Nat.le_of_ble_eq_true rfl) ⟨Nat.le_of_ble_eq_true rfl, Nat.le_of_ble_eq_true rfl, Nat.le_refl _, Nat.le_refl _⟩ dX8_stock_13 ?_
      refine top_i (y := nI (nT M)) rfl ?_
      refine ln_ge (tgt := 55) (a := i) (b := (nT M)) hx hb dX8_stock_16 (by decide) rfl rfl (by omega) (by omega) (fun c_2t => ?_) (fun c_2f => ?_)
      · refine lv_iload_n hx hb dX8_stock_55 rfl (lv_at hl 1 rfl) ?_
        subst hQ
        exact rt_i hx hb hr hlk (by rw [hsm, show i = nT M by omega]) dX8_stock_56
      · refine lv_aload_n hx hb dX8_stock_19 rfl (lv_at hl 2 rfl) ?_
        refine r1_get hC hK.1 (hW.ob (show jV M 8 0 from rfl)) lay_X8 rfl 2 (by decide) fl_X8_23 (fun x hx => hx) (v := .ref (ja 10 1)) rfl dX8_stock_20 ?_
        refine lv_iload_n hx hb dX8_stock_23 rfl (lv_at hl 0 rfl) ?_
        refine jw_get hC hK hW.1 (i := 1) (j := i) (Or.inl (by decide)) (show i < jn M E 1 from (by show i < nT M; omega)) ml_X8_263 hl.1 (Nat.le_of_ble_eq_true rfl) ⟨Nat.le_of_ble_eq_true rfl, Nat.le_of_ble_eq_true rfl, Nat.le_refl _, Nat.le_refl _⟩ dX8_stock_24 ?_
        refine jw_cast hC hK (hW.ob (show jV M 7 i from (by show i < nT M; omega))) rfl cl_X8_108 dX8_stock_27 ?_
        refine lv_astore (lv' := [(4, .ref (ja 7 i)), (3, .int (nI i)), (2, .int sm), (0, .ref (ja 8 0)), (1, .int (nI g))]) hx hb dX8_stock_30 hl (by decide) rfl (fun ls hl => ?_)
        refine lv_aload hx hb dX8_stock_32 (lv_at hl 0 rfl) ?_
        refine r1_get hC hK.1 (hW.ob (show jV M 7 i from (by show i < nT M; omega))) lay_X7 rfl 2 (by decide) fl_X8_267 (fun x hx => hx) (v := .int (M 8 i)) rfl dX8_stock_34 ?_
        refine lv_iload_n hx hb dX8_stock_37 rfl (lv_at hl 4 rfl) ?_
        refine lv_icmp_ne (tgt := 49) hx hb dX8_stock_38 (by decide) (fun c_3t => ?_) (fun c_3f => ?_)
        · refine lv_iinc (v := nI (i + 1)) (lv' := [(3, .int (nI (i + 1))), (4, .ref (ja 7 i)), (2, .int sm), (0, .ref (ja 8 0)), (1, .int (nI g))]) hx hb dX8_stock_49 hl (k := 1) rfl (nI_inc _) (by decide) rfl (fun ls hl => ?_)
          refine lv_goto (tgt := 8) hx hb dX8_stock_52 (by decide) ?_
          exact ih1 (i + 1) sm (by omega) (by rw [hsm]; exact (by rw [stkGo_s, if_neg c_3t, Int32.add_zero])) ls (by omega) (lv_sub hl [0, 2, 3, 4] rfl)
        · refine lv_iload_n hx hb dX8_stock_41 rfl (lv_at hl 2 rfl) ?_
          refine lv_aload hx hb dX8_stock_42 (lv_at hl 0 rfl) ?_
          refine r1_get hC hK.1 (hW.ob (show jV M 7 i from (by show i < nT M; omega))) lay_X7 rfl 3 (by decide) fl_X8_126 (fun x hx => hx) (v := .int (M 9 i)) rfl dX8_stock_44 ?_
          refine lv_iadd hx hb dX8_stock_47 ?_
          refine lv_istore_n (lv' := [(2, .int (sm + (M 9 i))), (4, .ref (ja 7 i)), (3, .int (nI i)), (0, .ref (ja 8 0)), (1, .int (nI g))]) hx hb dX8_stock_48 rfl hl (by decide) rfl (fun ls hl => ?_)
          refine lv_iinc (v := nI (i + 1)) (lv' := [(3, .int (nI (i + 1))), (2, .int (sm + (M 9 i))), (4, .ref (ja 7 i)), (0, .ref (ja 8 0)), (1, .int (nI g))]) hx hb dX8_stock_49 hl (k := 2) rfl (nI_inc _) (by decide) rfl (fun ls hl => ?_)
          refine lv_goto (tgt := 8) hx hb dX8_stock_52 (by decide) ?_
          exact ih1 (i + 1) (sm + (M 9 i)) (by omega) (by rw [hsm]; exact (by rw [stkGo_s, if_pos c_3f])) ls (by omega) (lv_sub hl [0, 1, 3, 4] rfl)
  exact loop1 ((nT M - 0) + 1) 0 0 (Nat.zero_le _) rfl ls (by omega) (lv_sub hl [0, 1, 2, 3] rfl)
set_option maxHeartbeats 4000000 in
set_option maxRecDepth 100000 in
theorem cJ_X8_stockX (l : Launch) (G : gG) (d0 mi : Nat) (Rf : Nat → Prop) (ja : Nat → Nat → Nat) (M : MS) (E : ES) (x : Int32) (hno : inB x 6 = false) (hl9 : l.stackTraces = false) : vx_Met l yX8_stock (wB yX8_stock cX8_stock 5 (some .int)) (rmL 4 1 6) (va_Pc [.ref (ja 8 0), .int x] (jT G d0 mi Rf ja M E)) xQ (xN xIAE) 1 6 (jA Rf) := by
  refine st_X (own := RX8) (by decide +kernel) rfl (Nat.le_of_ble_eq_true rfl) ?_
  intro p e s m below meth c ls args Q hQ hC hr hlk hex hl hP
  obtain ⟨⟨hW, hX, hRf⟩, hT9⟩ := hP
  have hK := hX.1
  have hx := hC.1
  have hb := hC.2.1
  have hl : lv_has ls 5 [(0, .ref (ja 8 0)), (1, .int x)] := hl
  have hS : va_S (jA Rf) s.heap s.heap [] := va_S.rf
  refine lv_iload_n hx hb dX8_stock_0 rfl (lv_at hl 1 rfl) ?_
  exact jx_call (run_SX hC (cJ_X8_requireGoodX l G d0 mi Rf ja M E x (by assumption) hl9) (As := [.int x]) (rest := []) rfl rfl ml_X8_99 sm_X8_requireGood ini_X8 cd_X8_requireGood na_X8_requireGood jT_blind (jT_at hX hT9 hRf hW hS) hl.1 (Nat.le_of_ble_eq_true rfl) ⟨Nat.le_of_ble_eq_true rfl, Nat.le_of_ble_eq_true rfl⟩ ⟨Nat.le_refl _, Nat.le_refl _⟩ rfl dX8_stock_1) hQ hex hlk
set_option maxHeartbeats 4000000 in
set_option maxRecDepth 100000 in
theorem cJ_X8_stockByPicks (l : Launch) (G : gG) (d0 mi : Nat) (Rf : Nat → Prop) (ja : Nat → Nat → Nat) (M : MS) (E : ES) (g : Nat) (h1 : g < 6) (hp15 : nP M ≤ 1500) (hRC : RC M E) : Met l yX8_stockByPicks (wB yX8_stockByPicks cX8_stockByPicks 5 (some .int)) (rmL 4 0 0) (va_Pc [.ref (ja 8 0), .int (nI g)] (jB G d0 mi Rf ja M E)) (k2_QcV (.int (M 32 g - M 33 g))) 0 0 fN := by
  refine st_N (own := RX8) (by decide +kernel) rfl (Nat.le_of_ble_eq_true rfl) ?_
  intro p e s m below meth c ls args Q hQ hC hr hlk hnm hl hP
  obtain ⟨hW, hX, hRf⟩ := hP
  have hK := hX.1
  have hx := hC.1
  have hb := hC.2.1
  have hl : lv_has ls 5 [(0, .ref (ja 8 0)), (1, .int (nI g))] := hl
  have hS : va_S (jA Rf) s.heap s.heap [] := va_S.rf
  refine lv_iload_n hx hb dX8_stockByPicks_0 rfl (lv_at hl 1 rfl) ?_
  refine cl_pv (run_S hC (cJ_X8_requireGood l g (by omega)) (As := [.int (nI g)]) (rest := []) rfl rfl ml_X8_99 sm_X8_requireGood ini_X8 cd_X8_requireGood na_X8_requireGood tB_blind (fun _ _ _ => trivial) hl.1 (Nat.le_of_ble_eq_true rfl) ⟨Nat.le_of_ble_eq_true rfl, Nat.le_of_ble_eq_true rfl⟩ ⟨Nat.le_refl _, Nat.le_refl _⟩ rfl dX8_stockByPicks_1) ?_
  refine lv_iconst (v := 0) hx hb dX8_stockByPicks_4 (by decide) ?_
  refine lv_istore_n (lv' := [(2, .int 0), (0, .ref (ja 8 0)), (1, .int (nI g))]) hx hb dX8_stockByPicks_5 rfl hl (by decide) rfl (fun ls hl => ?_)
  refine lv_iconst (v := 0) hx hb dX8_stockByPicks_6 (by decide) ?_
  refine lv_istore_n (lv' := [(3, .int 0), (2, .int 0), (0, .ref (ja 8 0)), (1, .int (nI g))]) hx hb dX8_stockByPicks_7 rfl hl (by decide) rfl (fun ls hl => ?_)
  have loop1 : ∀ (n_ : Nat) (i : Nat) (sm : Int32) (hi : i ≤ nT M) (hsm : sm = sI (rcF M E (nI g)) i) (ls : Array Slot), nT M - i < n_ → lv_has ls 5 [(3, .int (nI i)), (2, .int sm), (0, .ref (ja 8 0)), (1, .int (nI g))] → W p l e (rmL 4 0 0) s m args below meth c s.heap [] 0 0 Q (F0 m 8 ls []) := by
    intro n_
    induction n_ with
    | zero => intro i sm hi hsm ls hm hl; omega
    | succ n_ ih1 =>
      intro i sm hi hsm ls hm hl
      have h6 := hW.cnt.T16
      refine lv_iload_n hx hb dX8_stockByPicks_8 rfl (lv_at hl 0 rfl) ?_
      refine lv_aload_n hx hb dX8_stockByPicks_9 rfl (lv_at hl 2 rfl) ?_
      refine r1_get hC hK.1 (hW.ob (show jV M 8 0 from rfl)) lay_X8 rfl 2 (by decide) fl_X8_23 (fun x hx => hx) (v := .ref (ja 10 1)) rfl dX8_stockByPicks_10 ?_
      refine jw_size hC hK hW.1 (i := 1) (Or.inl (by decide)) ml_X8_81 hl.1 (Nat.le_of_ble_eq_true rfl) ⟨Nat.le_of_ble_eq_true rfl, Nat.le_of_ble_eq_true rfl, Nat.le_refl _, Nat.le_refl _⟩ dX8_stockByPicks_13 ?_
      refine top_i (y := nI (nT M)) rfl ?_
      refine ln_ge (tgt := 55) (a := i) (b := (nT M)) hx hb dX8_stockByPicks_16 (by decide) rfl rfl (by omega) (by omega) (fun c_2t => ?_) (fun c_2f => ?_)
      · refine lv_iconst (v := 0) hx hb dX8_stockByPicks_55 (by decide) ?_
        refine lv_istore_n (lv' := [(3, .int 0), (2, .int sm), (0, .ref (ja 8 0)), (1, .int (nI g))]) hx hb dX8_stockByPicks_56 rfl hl (by decide) rfl (fun ls hl => ?_)
        have loop3 : ∀ (n_ : Nat) (i : Nat) (sm : Int32) (hi : i ≤ nP M) (hsm : sm = sI (rcF M E (nI g)) (nT M) - sI (pcF M (nI g)) i) (ls : Array Slot), nP M - i < n_ → lv_has ls 5 [(3, .int (nI i)), (2, .int sm), (0, .ref (ja 8 0)), (1, .int (nI g))] → W p l e (rmL 4 0 0) s m args below meth c s.heap [] 0 0 Q (F0 m 57 ls []) := by
          intro n_
          induction n_ with
          | zero => intro i sm hi hsm ls hm hl; omega
          | succ n_ ih3 =>
            intro i sm hi hsm ls hm hl
            have h6 := hp15
            refine lv_iload_n hx hb dX8_stockByPicks_57 rfl (lv_at hl 0 rfl) ?_
            refine lv_aload_n hx hb dX8_stockByPicks_58 rfl (lv_at hl 2 rfl) ?_
            refine r1_get hC hK.1 (hW.ob (show jV M 8 0 from rfl)) lay_X8 rfl 4 (by decide) fl_X8_29 (fun x hx => hx) (v := .ref (ja 10 3)) rfl dX8_stockByPicks_59 ?_
            refine jw_size hC hK hW.1 (i := 3) (Or.inl (by decide)) ml_X8_81 hl.1 (Nat.le_of_ble_eq_true rfl) ⟨Nat.le_of_ble_eq_true rfl, Nat.le_of_ble_eq_true rfl, Nat.le_refl _, Nat.le_refl _⟩ dX8_stockByPicks_62 ?_
            refine top_i (y := nI (nP M)) rfl ?_
            refine ln_ge (tgt := 98) (a := i) (b := (nP M)) hx hb dX8_stockByPicks_65 (by decide) rfl rfl (by omega) (by omega) (fun c_4t => ?_) (fun c_4f => ?_)
            · refine lv_iload_n hx hb dX8_stockByPicks_98 rfl (lv_at hl 1 rfl) ?_
              subst hQ
              exact rt_i hx hb hr hlk (by rw [hsm, show i = nP M by omega, (hRC g h1).1, (hRC g h1).2]) dX8_stockByPicks_99
            · refine lv_aload_n hx hb dX8_stockByPicks_68 rfl (lv_at hl 2 rfl) ?_
              refine r1_get hC hK.1 (hW.ob (show jV M 8 0 from rfl)) lay_X8 rfl 4 (by decide) fl_X8_29 (fun x hx => hx) (v := .ref (ja 10 3)) rfl dX8_stockByPicks_69 ?_
              refine lv_iload_n hx hb dX8_stockByPicks_72 rfl (lv_at hl 0 rfl) ?_
              refine jw_get hC hK hW.1 (i := 3) (j := i) (Or.inl (by decide)) (show i < jn M E 3 from (by show i < nP M; omega)) ml_X8_263 hl.1 (Nat.le_of_ble_eq_true rfl) ⟨Nat.le_of_ble_eq_true rfl, Nat.le_of_ble_eq_true rfl, Nat.le_refl _, Nat.le_refl _⟩ dX8_stockByPicks_73 ?_
              refine jw_cast hC hK (hW.ob (show jV M 4 i from (by show i < nP M; omega))) rfl cl_X8_273 dX8_stockByPicks_76 ?_
              refine r1_get hC hK.1 (hW.ob (show jV M 4 i from (by show i < nP M; omega))) lay_X4 rfl 0 (by decide) fl_X8_275 (fun x hx => hx) (v := .ref (ja 7 (ix (M 35 i)))) rfl dX8_stockByPicks_79 ?_
              refine r1_get hC hK.1 (hW.ob (show jV M 7 (ix (M 35 i)) from (hW.pk_t (by omega)).1)) lay_X7 rfl 2 (by decide) fl_X8_267 (fun x hx => hx) (v := .int (M 8 (ix (M 35 i)))) rfl dX8_stockByPicks_82 ?_
              refine lv_iload_n hx hb dX8_stockByPicks_85 rfl (lv_at hl 3 rfl) ?_
              refine lv_icmp_ne (tgt := 92) hx hb dX8_stockByPicks_86 (by decide) (fun c_5t => ?_) (fun c_5f => ?_)
              · refine lv_iinc (v := nI (i + 1)) (lv' := [(3, .int (nI (i + 1))), (2, .int sm), (0, .ref (ja 8 0)), (1, .int (nI g))]) hx hb dX8_stockByPicks_92 hl (k := 0) rfl (nI_inc _) (by decide) rfl (fun ls hl => ?_)
                refine lv_goto (tgt := 57) hx hb dX8_stockByPicks_95 (by decide) ?_
                exact ih3 (i + 1) sm (by omega) (by rw [hsm]; exact (by rw [sI_s, pcF, if_neg c_5t, Int32.add_zero])) ls (by omega) (lv_sub hl [0, 1, 2, 3] rfl)
              · refine lv_iinc (v := sm + (-1)) (lv' := [(2, .int (sm + (-1))), (3, .int (nI i)), (0, .ref (ja 8 0)), (1, .int (nI g))]) hx hb dX8_stockByPicks_89 hl (k := 1) rfl (rfl) (by decide) rfl (fun ls hl => ?_)
                refine lv_iinc (v := nI (i + 1)) (lv' := [(3, .int (nI (i + 1))), (2, .int (sm + (-1))), (0, .ref (ja 8 0)), (1, .int (nI g))]) hx hb dX8_stockByPicks_92 hl (k := 1) rfl (nI_inc _) (by decide) rfl (fun ls hl => ?_)
                refine lv_goto (tgt := 57) hx hb dX8_stockByPicks_95 (by decide) ?_
                exact ih3 (i + 1) (sm + (-1)) (by omega) (by rw [hsm]; exact (by rw [sI_s, pcF, if_pos c_5f, ← sub_add1])) ls (by omega) (lv_sub hl [0, 1, 2, 3] rfl)
        exact loop3 ((nP M - 0) + 1) 0 sm (Nat.zero_le _) (by rw [hsm, show i = nT M by omega]; show _ = _ - 0; rw [Int32.sub_zero]) ls (by omega) (lv_sub hl [0, 1, 2, 3] rfl)
      · refine lv_aload_n hx hb dX8_stockByPicks_19 rfl (lv_at hl 2 rfl) ?_
        refine r1_get hC hK.1 (hW.ob (show jV M 8 0 from rfl)) lay_X8 rfl 2 (by decide) fl_X8_23 (fun x hx => hx) (v := .ref (ja 10 1)) rfl dX8_stockByPicks_20 ?_
        refine lv_iload_n hx hb dX8_stockByPicks_23 rfl (lv_at hl 0 rfl) ?_
        refine jw_get hC hK hW.1 (i := 1) (j := i) (Or.inl (by decide)) (show i < jn M E 1 from (by show i < nT M; omega)) ml_X8_263 hl.1 (Nat.le_of_ble_eq_true rfl) ⟨Nat.le_of_ble_eq_true rfl, Nat.le_of_ble_eq_true rfl, Nat.le_refl _, Nat.le_refl _⟩ dX8_stockByPicks_24 ?_
        refine jw_cast hC hK (hW.ob (show jV M 7 i from (by show i < nT M; omega))) rfl cl_X8_108 dX8_stockByPicks_27 ?_
        refine lv_astore (lv' := [(4, .ref (ja 7 i)), (3, .int (nI i)), (2, .int sm), (0, .ref (ja 8 0)), (1, .int (nI g))]) hx hb dX8_stockByPicks_30 hl (by decide) rfl (fun ls hl => ?_)
        refine lv_aload hx hb dX8_stockByPicks_32 (lv_at hl 0 rfl) ?_
        refine r1_get hC hK.1 (hW.ob (show jV M 7 i from (by show i < nT M; omega))) lay_X7 rfl 2 (by decide) fl_X8_267 (fun x hx => hx) (v := .int (M 8 i)) rfl dX8_stockByPicks_34 ?_
        refine lv_iload_n hx hb dX8_stockByPicks_37 rfl (lv_at hl 4 rfl) ?_
        refine lv_icmp_ne (tgt := 49) hx hb dX8_stockByPicks_38 (by decide) (fun c_6t => ?_) (fun c_6f => ?_)
        · refine lv_iinc (v := nI (i + 1)) (lv' := [(3, .int (nI (i + 1))), (4, .ref (ja 7 i)), (2, .int sm), (0, .ref (ja 8 0)), (1, .int (nI g))]) hx hb dX8_stockByPicks_49 hl (k := 1) rfl (nI_inc _) (by decide) rfl (fun ls hl => ?_)
          refine lv_goto (tgt := 8) hx hb dX8_stockByPicks_52 (by decide) ?_
          exact ih1 (i + 1) sm (by omega) (by rw [hsm]; exact (by rw [sI_s, rcF, if_neg c_6t, Int32.add_zero])) ls (by omega) (lv_sub hl [0, 2, 3, 4] rfl)
        · refine lv_iload_n hx hb dX8_stockByPicks_41 rfl (lv_at hl 2 rfl) ?_
          refine lv_aload hx hb dX8_stockByPicks_42 (lv_at hl 0 rfl) ?_
          refine r1_get hC hK.1 (hW.ob (show jV M 7 i from (by show i < nT M; omega))) lay_X7 rfl 4 (by decide) fl_X8_270 (fun x hx => hx) (v := .int (eR E i)) rfl dX8_stockByPicks_44 ?_
          refine lv_iadd hx hb dX8_stockByPicks_47 ?_
          refine lv_istore_n (lv' := [(2, .int (sm + (eR E i))), (4, .ref (ja 7 i)), (3, .int (nI i)), (0, .ref (ja 8 0)), (1, .int (nI g))]) hx hb dX8_stockByPicks_48 rfl hl (by decide) rfl (fun ls hl => ?_)
          refine lv_iinc (v := nI (i + 1)) (lv' := [(3, .int (nI (i + 1))), (2, .int (sm + (eR E i))), (4, .ref (ja 7 i)), (0, .ref (ja 8 0)), (1, .int (nI g))]) hx hb dX8_stockByPicks_49 hl (k := 2) rfl (nI_inc _) (by decide) rfl (fun ls hl => ?_)
          refine lv_goto (tgt := 8) hx hb dX8_stockByPicks_52 (by decide) ?_
          exact ih1 (i + 1) (sm + (eR E i)) (by omega) (by rw [hsm]; exact (by rw [sI_s, rcF, if_pos c_6f])) ls (by omega) (lv_sub hl [0, 1, 3, 4] rfl)
  exact loop1 ((nT M - 0) + 1) 0 0 (Nat.zero_le _) rfl ls (by omega) (lv_sub hl [0, 1, 2, 3] rfl)
set_option maxHeartbeats 4000000 in
set_option maxRecDepth 100000 in
theorem cJ_X8_stockByPicksX (l : Launch) (G : gG) (d0 mi : Nat) (Rf : Nat → Prop) (ja : Nat → Nat → Nat) (M : MS) (E : ES) (x : Int32) (hno : inB x 6 = false) (hl9 : l.stackTraces = false) : vx_Met l yX8_stockByPicks (wB yX8_stockByPicks cX8_stockByPicks 5 (some .int)) (rmL 4 1 6) (va_Pc [.ref (ja 8 0), .int x] (jT G d0 mi Rf ja M E)) xQ (xN xIAE) 1 6 (jA Rf) := by
  refine st_X (own := RX8) (by decide +kernel) rfl (Nat.le_of_ble_eq_true rfl) ?_
  intro p e s m below meth c ls args Q hQ hC hr hlk hex hl hP
  obtain ⟨⟨hW, hX, hRf⟩, hT9⟩ := hP
  have hK := hX.1
  have hx := hC.1
  have hb := hC.2.1
  have hl : lv_has ls 5 [(0, .ref (ja 8 0)), (1, .int x)] := hl
  have hS : va_S (jA Rf) s.heap s.heap [] := va_S.rf
  refine lv_iload_n hx hb dX8_stockByPicks_0 rfl (lv_at hl 1 rfl) ?_
  exact jx_call (run_SX hC (cJ_X8_requireGoodX l G d0 mi Rf ja M E x (by assumption) hl9) (As := [.int x]) (rest := []) rfl rfl ml_X8_99 sm_X8_requireGood ini_X8 cd_X8_requireGood na_X8_requireGood jT_blind (jT_at hX hT9 hRf hW hS) hl.1 (Nat.le_of_ble_eq_true rfl) ⟨Nat.le_of_ble_eq_true rfl, Nat.le_of_ble_eq_true rfl⟩ ⟨Nat.le_refl _, Nat.le_refl _⟩ rfl dX8_stockByPicks_1) hQ hex hlk
