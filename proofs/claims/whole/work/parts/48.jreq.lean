/-! WHAT THE ARGUMENTS MUST BE -/
theorem inB_le {x : Int32} {n : Nat} (hn : n + 1 < 2147483648) : inB x (nI (n + 1)) = true ↔ ¬ x < 0 ∧ x ≤ nI n := by
  unfold inB
  rw [Bool.and_eq_true, Bool.not_eq_true', Bool.not_eq_true', decide_eq_false_iff_not, decide_eq_false_iff_not]
  refine and_congr Iff.rfl ?_
  rw [Int32.le_iff_toInt_le, Int32.le_iff_toInt_le, nI_toInt hn, nI_toInt (by omega)]
  omega
theorem inB_n {x : Int32} {n : Nat} (hn : n + 1 < 2147483648) (h : inB x (nI (n + 1)) = false) : ¬ (¬ x < 0 ∧ x ≤ nI n) := fun q => by
  rw [(inB_le hn).mpr q] at h; cases h
theorem inB_lt {x : Int32} {n : Nat} (hn : n < 2147483648) (h : inB x (nI n) = false) : ¬ (¬ x < 0 ∧ x < nI n) := fun q => by
  unfold inB at h
  have h2 : ¬ nI n ≤ x := by
    rw [Int32.le_iff_toInt_le]
    have := Int32.lt_iff_toInt_lt.mp q.2
    omega
  rw [decide_eq_false q.1, decide_eq_false h2] at h
  cases h
theorem nI_rg {j n : Nat} (h : j ≤ n) (hn : n < 2147483648) : ¬ nI j < 0 ∧ nI j ≤ nI n := ⟨nI_pos (by omega), by rw [Int32.le_iff_toInt_le, nI_toInt (by omega), nI_toInt hn]; omega⟩
theorem lt_nI {j n : Nat} (h : j < n) (hn : n < 2147483648) : nI j < nI n := by rw [Int32.lt_iff_toInt_lt, nI_toInt (by omega), nI_toInt hn]; omega
theorem VL_ok {M : MS} {o k : Nat} (h1 : o < nO M) (h2 : k < nL M o) (h3 : nL M o ≤ 3) : VL M (3 * o + k) = true := by
  unfold VL
  rw [show (3 * o + k) / 3 = o by omega, show (3 * o + k) % 3 = k by omega, decide_eq_true h1, decide_eq_true h2]; rfl
set_option maxHeartbeats 4000000 in
set_option maxRecDepth 100000 in
theorem cJ_X8_requireRange (l : Launch) (v : Int32) (lo : Int32) (hi : Int32) (h1 : ¬ v < lo) (h2 : v ≤ hi) : Met l yX8_requireRange (wB yX8_requireRange cX8_requireRange 3 none) (rmL 1 0 0) (va_Pc [.int v, .int lo, .int hi] (fun _ => True)) (qPv) 0 0 fN := by
  refine st_N (own := RX8) (by decide +kernel) rfl (Nat.le_of_ble_eq_true rfl) ?_
  intro p e s m below meth c ls args Q hQ hC hr hlk hnm hl hP
  have hx := hC.1
  have hb := hC.2.1
  have hl : lv_has ls 3 [(0, .int v), (1, .int lo), (2, .int hi)] := hl
  refine lv_iload_n hx hb dX8_requireRange_0 rfl (lv_at hl 0 rfl) ?_
  refine lv_iload_n hx hb dX8_requireRange_1 rfl (lv_at hl 1 rfl) ?_
  refine lv_icmp_lt (tgt := 10) hx hb dX8_requireRange_2 (by decide) (fun c_1t => ?_) (fun c_1f => ?_)
  · first | contradiction | omega
  · refine lv_iload_n hx hb dX8_requireRange_5 rfl (lv_at hl 0 rfl) ?_
    refine lv_iload_n hx hb dX8_requireRange_6 rfl (lv_at hl 2 rfl) ?_
    refine lv_icmp_le (tgt := 21) hx hb dX8_requireRange_7 (by decide) (fun c_2t => ?_) (fun c_2f => ?_)
    · subst hQ
      exact rt_pv hx hb hr hlk dX8_requireRange_21
    · first | contradiction | omega
set_option maxHeartbeats 4000000 in
set_option maxRecDepth 100000 in
theorem cJ_X8_requireRangeX (l : Launch) (G : gG) (d0 mi : Nat) (Rf : Nat → Prop) (ja : Nat → Nat → Nat) (M : MS) (E : ES) (v : Int32) (lo : Int32) (hi : Int32) (hno : ¬ (¬ v < lo ∧ v ≤ hi)) (hl9 : l.stackTraces = false) : vx_Met l yX8_requireRange (wB yX8_requireRange cX8_requireRange 3 none) (rmL 1 1 6) (va_Pc [.int v, .int lo, .int hi] (jT G d0 mi Rf ja M E)) xQ (xN xIAE) 1 6 (jA Rf) := by
  refine st_X (own := RX8) (by decide +kernel) rfl (Nat.le_of_ble_eq_true rfl) ?_
  intro p e s m below meth c ls args Q hQ hC hr hlk hex hl hP
  obtain ⟨⟨hW, hX, hRf⟩, hT9⟩ := hP
  have hK := hX.1
  have hx := hC.1
  have hb := hC.2.1
  have hl : lv_has ls 3 [(0, .int v), (1, .int lo), (2, .int hi)] := hl
  have hS : va_S (jA Rf) s.heap s.heap [] := va_S.rf
  refine lv_iload_n hx hb dX8_requireRange_0 rfl (lv_at hl 0 rfl) ?_
  refine lv_iload_n hx hb dX8_requireRange_1 rfl (lv_at hl 1 rfl) ?_
  refine lv_icmp_lt (tgt := 10) hx hb dX8_requireRange_2 (by decide) (fun c_1t => ?_) (fun c_1f => ?_)
  · exact jx_IAEW hC hl9 hT9 hex hlk hl.1 (text := "an argument is out of range") (by decide) ⟨Nat.le_of_ble_eq_true rfl, Nat.le_of_ble_eq_true rfl, Nat.le_refl _, Nat.le_refl _⟩ (by decide) hQ dX8_requireRange_10 dX8_requireRange_13 dX8_requireRange_14 dX8_requireRange_17 dX8_requireRange_20
  · refine lv_iload_n hx hb dX8_requireRange_5 rfl (lv_at hl 0 rfl) ?_
    refine lv_iload_n hx hb dX8_requireRange_6 rfl (lv_at hl 2 rfl) ?_
    refine lv_icmp_le (tgt := 21) hx hb dX8_requireRange_7 (by decide) (fun c_2t => ?_) (fun c_2f => ?_)
    · exact absurd ⟨by assumption, by assumption⟩ hno
    · exact jx_IAEW hC hl9 hT9 hex hlk hl.1 (text := "an argument is out of range") (by decide) ⟨Nat.le_of_ble_eq_true rfl, Nat.le_of_ble_eq_true rfl, Nat.le_refl _, Nat.le_refl _⟩ (by decide) hQ dX8_requireRange_10 dX8_requireRange_13 dX8_requireRange_14 dX8_requireRange_17 dX8_requireRange_20
set_option maxHeartbeats 4000000 in
set_option maxRecDepth 100000 in
theorem cJ_X8_requireCell (l : Launch) (x : Nat) (h1 : x < 64) : Met l yX8_requireCell (wB yX8_requireCell cX8_requireCell 1 none) (rmL 2 0 0) (va_Pc [.int (nI x)] (fun _ => True)) (qPv) 0 0 fN := by
  refine st_N (own := RX8) (by decide +kernel) rfl (Nat.le_of_ble_eq_true rfl) ?_
  intro p e s m below meth c ls args Q hQ hC hr hlk hnm hl hP
  have hx := hC.1
  have hb := hC.2.1
  have hl : lv_has ls 1 [(0, .int (nI x))] := hl
  refine lv_iload_n hx hb dX8_requireCell_0 rfl (lv_at hl 0 rfl) ?_
  refine lv_iconst (v := 0) hx hb dX8_requireCell_1 (by decide) ?_
  refine lv_bipush (v := 63) hx hb dX8_requireCell_2 (by decide) ?_
  refine cl_pv (run_S hC (cJ_X8_requireRange l (nI x) 0 63 ((nI_rg (n := 63) (by omega) (by decide)).1) ((nI_rg (n := 63) (by omega) (by decide)).2)) (As := [.int (nI x), .int 0, .int 63]) (rest := []) rfl rfl ml_X8_102 sm_X8_requireRange ini_X8 cd_X8_requireRange na_X8_requireRange tB_blind (fun _ _ _ => trivial) hl.1 (Nat.le_of_ble_eq_true rfl) ⟨Nat.le_of_ble_eq_true rfl, Nat.le_of_ble_eq_true rfl⟩ ⟨Nat.le_refl _, Nat.le_refl _⟩ rfl dX8_requireCell_4) ?_
  subst hQ
  exact rt_pv hx hb hr hlk dX8_requireCell_7
set_option maxHeartbeats 4000000 in
set_option maxRecDepth 100000 in
theorem cJ_X8_requireCellX (l : Launch) (G : gG) (d0 mi : Nat) (Rf : Nat → Prop) (ja : Nat → Nat → Nat) (M : MS) (E : ES) (x : Int32) (hno : inB x 64 = false) (hl9 : l.stackTraces = false) : vx_Met l yX8_requireCell (wB yX8_requireCell cX8_requireCell 1 none) (rmL 2 1 6) (va_Pc [.int x] (jT G d0 mi Rf ja M E)) xQ (xN xIAE) 1 6 (jA Rf) := by
  refine st_X (own := RX8) (by decide +kernel) rfl (Nat.le_of_ble_eq_true rfl) ?_
  intro p e s m below meth c ls args Q hQ hC hr hlk hex hl hP
  obtain ⟨⟨hW, hX, hRf⟩, hT9⟩ := hP
  have hK := hX.1
  have hx := hC.1
  have hb := hC.2.1
  have hl : lv_has ls 1 [(0, .int x)] := hl
  have hS : va_S (jA Rf) s.heap s.heap [] := va_S.rf
  refine lv_iload_n hx hb dX8_requireCell_0 rfl (lv_at hl 0 rfl) ?_
  refine lv_iconst (v := 0) hx hb dX8_requireCell_1 (by decide) ?_
  refine lv_bipush (v := 63) hx hb dX8_requireCell_2 (by decide) ?_
  exact jx_call (run_SX hC (cJ_X8_requireRangeX l G d0 mi Rf ja M E x 0 63 (inB_n (n := 63) (by decide) hno) hl9) (As := [.int x, .int 0, .int 63]) (rest := []) rfl rfl ml_X8_102 sm_X8_requireRange ini_X8 cd_X8_requireRange na_X8_requireRange jT_blind (jT_at hX hT9 hRf hW hS) hl.1 (Nat.le_of_ble_eq_true rfl) ⟨Nat.le_of_ble_eq_true rfl, Nat.le_of_ble_eq_true rfl⟩ ⟨Nat.le_refl _, Nat.le_refl _⟩ rfl dX8_requireCell_4) hQ hex hlk
set_option maxHeartbeats 4000000 in
set_option maxRecDepth 100000 in
theorem cJ_X8_requireGood (l : Launch) (x : Nat) (h1 : x < 6) : Met l yX8_requireGood (wB yX8_requireGood cX8_requireGood 1 none) (rmL 2 0 0) (va_Pc [.int (nI x)] (fun _ => True)) (qPv) 0 0 fN := by
  refine st_N (own := RX8) (by decide +kernel) rfl (Nat.le_of_ble_eq_true rfl) ?_
  intro p e s m below meth c ls args Q hQ hC hr hlk hnm hl hP
  have hx := hC.1
  have hb := hC.2.1
  have hl : lv_has ls 1 [(0, .int (nI x))] := hl
  refine lv_iload_n hx hb dX8_requireGood_0 rfl (lv_at hl 0 rfl) ?_
  refine lv_iconst (v := 0) hx hb dX8_requireGood_1 (by decide) ?_
  refine lv_iconst (v := 5) hx hb dX8_requireGood_2 (by decide) ?_
  refine cl_pv (run_S hC (cJ_X8_requireRange l (nI x) 0 5 ((nI_rg (n := 5) (by omega) (by decide)).1) ((nI_rg (n := 5) (by omega) (by decide)).2)) (As := [.int (nI x), .int 0, .int 5]) (rest := []) rfl rfl ml_X8_102 sm_X8_requireRange ini_X8 cd_X8_requireRange na_X8_requireRange tB_blind (fun _ _ _ => trivial) hl.1 (Nat.le_of_ble_eq_true rfl) ⟨Nat.le_of_ble_eq_true rfl, Nat.le_of_ble_eq_true rfl⟩ ⟨Nat.le_refl _, Nat.le_refl _⟩ rfl dX8_requireGood_3) ?_
  subst hQ
  exact rt_pv hx hb hr hlk dX8_requireGood_6
set_option maxHeartbeats 4000000 in
set_option maxRecDepth 100000 in
theorem cJ_X8_requireGoodX (l : Launch) (G : gG) (d0 mi : Nat) (Rf : Nat → Prop) (ja : Nat → Nat → Nat) (M : MS) (E : ES) (x : Int32) (hno : inB x 6 = false) (hl9 : l.stackTraces = false) : vx_Met l yX8_requireGood (wB yX8_requireGood cX8_requireGood 1 none) (rmL 2 1 6) (va_Pc [.int x] (jT G d0 mi Rf ja M E)) xQ (xN xIAE) 1 6 (jA Rf) := by
  refine st_X (own := RX8) (by decide +kernel) rfl (Nat.le_of_ble_eq_true rfl) ?_
  intro p e s m below meth c ls args Q hQ hC hr hlk hex hl hP
  obtain ⟨⟨hW, hX, hRf⟩, hT9⟩ := hP
  have hK := hX.1
  have hx := hC.1
  have hb := hC.2.1
  have hl : lv_has ls 1 [(0, .int x)] := hl
  have hS : va_S (jA Rf) s.heap s.heap [] := va_S.rf
  refine lv_iload_n hx hb dX8_requireGood_0 rfl (lv_at hl 0 rfl) ?_
  refine lv_iconst (v := 0) hx hb dX8_requireGood_1 (by decide) ?_
  refine lv_iconst (v := 5) hx hb dX8_requireGood_2 (by decide) ?_
  exact jx_call (run_SX hC (cJ_X8_requireRangeX l G d0 mi Rf ja M E x 0 5 (inB_n (n := 5) (by decide) hno) hl9) (As := [.int x, .int 0, .int 5]) (rest := []) rfl rfl ml_X8_102 sm_X8_requireRange ini_X8 cd_X8_requireRange na_X8_requireRange jT_blind (jT_at hX hT9 hRf hW hS) hl.1 (Nat.le_of_ble_eq_true rfl) ⟨Nat.le_of_ble_eq_true rfl, Nat.le_of_ble_eq_true rfl⟩ ⟨Nat.le_refl _, Nat.le_refl _⟩ rfl dX8_requireGood_3) hQ hex hlk
set_option maxHeartbeats 4000000 in
set_option maxRecDepth 100000 in
theorem cJ_X8_requireNumber (l : Launch) (x : Nat) (n : Nat) (h1 : x < n) (h2 : n < 2147483648) : Met l yX8_requireNumber (wB yX8_requireNumber cX8_requireNumber 2 none) (rmL 1 0 0) (va_Pc [.int (nI x), .int (nI n)] (fun _ => True)) (qPv) 0 0 fN := by
  refine st_N (own := RX8) (by decide +kernel) rfl (Nat.le_of_ble_eq_true rfl) ?_
  intro p e s m below meth c ls args Q hQ hC hr hlk hnm hl hP
  have hx := hC.1
  have hb := hC.2.1
  have hl : lv_has ls 2 [(0, .int (nI x)), (1, .int (nI n))] := hl
  have hp := nI_pos (show x < 2147483648 by omega)
  refine lv_iload_n hx hb dX8_requireNumber_0 rfl (lv_at hl 0 rfl) ?_
  refine lv_if_lt (tgt := 9) hx hb dX8_requireNumber_1 (by decide) (fun c_1t => ?_) (fun c_1f => ?_)
  · first | contradiction | omega
  · refine lv_iload_n hx hb dX8_requireNumber_4 rfl (lv_at hl 0 rfl) ?_
    refine lv_iload_n hx hb dX8_requireNumber_5 rfl (lv_at hl 1 rfl) ?_
    refine ln_lt (tgt := 20) (a := x) (b := n) hx hb dX8_requireNumber_6 (by decide) rfl rfl (by omega) (by omega) (fun c_2t => ?_) (fun c_2f => ?_)
    · subst hQ
      exact rt_pv hx hb hr hlk dX8_requireNumber_20
    · first | contradiction | omega
set_option maxHeartbeats 4000000 in
set_option maxRecDepth 100000 in
theorem cJ_X8_requireNumberX (l : Launch) (G : gG) (d0 mi : Nat) (Rf : Nat → Prop) (ja : Nat → Nat → Nat) (M : MS) (E : ES) (x : Int32) (n : Nat) (hno : inB x (nI n) = false) (h2 : n < 2147483648) (hl9 : l.stackTraces = false) : vx_Met l yX8_requireNumber (wB yX8_requireNumber cX8_requireNumber 2 none) (rmL 1 1 6) (va_Pc [.int x, .int (nI n)] (jT G d0 mi Rf ja M E)) xQ (xN xIOE) 1 6 (jA Rf) := by
  refine st_X (own := RX8) (by decide +kernel) rfl (Nat.le_of_ble_eq_true rfl) ?_
  intro p e s m below meth c ls args Q hQ hC hr hlk hex hl hP
  obtain ⟨⟨hW, hX, hRf⟩, hT9⟩ := hP
  have hK := hX.1
  have hx := hC.1
  have hb := hC.2.1
  have hl : lv_has ls 2 [(0, .int x), (1, .int (nI n))] := hl
  have hS : va_S (jA Rf) s.heap s.heap [] := va_S.rf
  refine lv_iload_n hx hb dX8_requireNumber_0 rfl (lv_at hl 0 rfl) ?_
  refine lv_if_lt (tgt := 9) hx hb dX8_requireNumber_1 (by decide) (fun c_1t => ?_) (fun c_1f => ?_)
  · exact jx_IOEW hC hl9 hT9 hex hlk hl.1 (text := "there is no such number") (by decide) ⟨Nat.le_of_ble_eq_true rfl, Nat.le_of_ble_eq_true rfl, Nat.le_refl _, Nat.le_refl _⟩ (by decide) hQ dX8_requireNumber_9 dX8_requireNumber_12 dX8_requireNumber_13 dX8_requireNumber_16 dX8_requireNumber_19
  · refine lv_iload_n hx hb dX8_requireNumber_4 rfl (lv_at hl 0 rfl) ?_
    refine lv_iload_n hx hb dX8_requireNumber_5 rfl (lv_at hl 1 rfl) ?_
    refine lv_icmp_lt (tgt := 20) hx hb dX8_requireNumber_6 (by decide) (fun c_2t => ?_) (fun c_2f => ?_)
    · exact absurd ⟨by assumption, by assumption⟩ (inB_lt h2 hno)
    · exact jx_IOEW hC hl9 hT9 hex hlk hl.1 (text := "there is no such number") (by decide) ⟨Nat.le_of_ble_eq_true rfl, Nat.le_of_ble_eq_true rfl, Nat.le_refl _, Nat.le_refl _⟩ (by decide) hQ dX8_requireNumber_9 dX8_requireNumber_12 dX8_requireNumber_13 dX8_requireNumber_16 dX8_requireNumber_19
set_option maxHeartbeats 4000000 in
set_option maxRecDepth 100000 in
theorem cJ_X8_findStation (l : Launch) (G : gG) (d0 mi : Nat) (Rf : Nat → Prop) (ja : Nat → Nat → Nat) (M : MS) (E : ES) (x : Nat) (h1 : x < nS M) : Met l yX8_findStation (wB yX8_findStation cX8_findStation 2 (some (.object "ShelfSwarm$Station"))) (rmL 4 0 0) (va_Pc [.ref (ja 8 0), .int (nI x)] (jB G d0 mi Rf ja M E)) (k2_QcV (.ref (ja 6 (x)))) 0 0 fN := by
  refine st_N (own := RX8) (by decide +kernel) rfl (Nat.le_of_ble_eq_true rfl) ?_
  intro p e s m below meth c ls args Q hQ hC hr hlk hnm hl hP
  obtain ⟨hW, hX, hRf⟩ := hP
  have hK := hX.1
  have hx := hC.1
  have hb := hC.2.1
  have hl : lv_has ls 2 [(0, .ref (ja 8 0)), (1, .int (nI x))] := hl
  have hS : va_S (jA Rf) s.heap s.heap [] := va_S.rf
  have hb9 := hW.cnt.S3
  refine lv_iload_n hx hb dX8_findStation_0 rfl (lv_at hl 1 rfl) ?_
  refine lv_aload_n hx hb dX8_findStation_1 rfl (lv_at hl 0 rfl) ?_
  refine r1_get hC hK.1 (hW.ob (show jV M 8 0 from rfl)) lay_X8 rfl 1 (by decide) fl_X8_19 (fun x hx => hx) (v := .ref (ja 10 0)) rfl dX8_findStation_2 ?_
  refine jw_size hC hK hW.1 (i := 0) (Or.inl (by decide)) ml_X8_81 hl.1 (Nat.le_of_ble_eq_true rfl) ⟨Nat.le_of_ble_eq_true rfl, Nat.le_of_ble_eq_true rfl, Nat.le_refl _, Nat.le_refl _⟩ dX8_findStation_5 ?_
  refine top_i (y := nI (nS M)) rfl ?_
  refine cl_pv (run_S hC (cJ_X8_requireNumber l x (nS M) (by omega) (by omega)) (As := [.int (nI x), .int (nI (nS M))]) (rest := []) rfl rfl ml_X8_297 sm_X8_requireNumber ini_X8 cd_X8_requireNumber na_X8_requireNumber tB_blind (fun _ _ _ => trivial) hl.1 (Nat.le_of_ble_eq_true rfl) ⟨Nat.le_of_ble_eq_true rfl, Nat.le_of_ble_eq_true rfl⟩ ⟨Nat.le_refl _, Nat.le_refl _⟩ rfl dX8_findStation_8) ?_
  refine lv_aload_n hx hb dX8_findStation_11 rfl (lv_at hl 0 rfl) ?_
  refine r1_get hC hK.1 (hW.ob (show jV M 8 0 from rfl)) lay_X8 rfl 1 (by decide) fl_X8_19 (fun x hx => hx) (v := .ref (ja 10 0)) rfl dX8_findStation_12 ?_
  refine lv_iload_n hx hb dX8_findStation_15 rfl (lv_at hl 1 rfl) ?_
  refine jw_get hC hK hW.1 (i := 0) (j := x) (Or.inl (by decide)) (show x < jn M E 0 from (by show x < nS M; omega)) ml_X8_263 hl.1 (Nat.le_of_ble_eq_true rfl) ⟨Nat.le_of_ble_eq_true rfl, Nat.le_of_ble_eq_true rfl, Nat.le_refl _, Nat.le_refl _⟩ dX8_findStation_16 ?_
  refine jw_cast hC hK (hW.ob (show jV M 6 x from (by show x < nS M; omega))) rfl cl_X8_87 dX8_findStation_19 ?_
  subst hQ
  exact rt_a (r := some (ja 6 x)) hx hb hr (Or.inl ⟨_, rfl⟩) hlk rfl rfl dX8_findStation_22
set_option maxHeartbeats 4000000 in
set_option maxRecDepth 100000 in
theorem cJ_X8_findStationX (l : Launch) (G : gG) (d0 mi : Nat) (Rf : Nat → Prop) (ja : Nat → Nat → Nat) (M : MS) (E : ES) (x : Int32) (hno : inB x (nI (nS M)) = false) (hl9 : l.stackTraces = false) : vx_Met l yX8_findStation (wB yX8_findStation cX8_findStation 2 (some (.object "ShelfSwarm$Station"))) (rmL 4 1 6) (va_Pc [.ref (ja 8 0), .int x] (jT G d0 mi Rf ja M E)) xQ (xN xIOE) 1 6 (jA Rf) := by
  refine st_X (own := RX8) (by decide +kernel) rfl (Nat.le_of_ble_eq_true rfl) ?_
  intro p e s m below meth c ls args Q hQ hC hr hlk hex hl hP
  obtain ⟨⟨hW, hX, hRf⟩, hT9⟩ := hP
  have hK := hX.1
  have hx := hC.1
  have hb := hC.2.1
  have hl : lv_has ls 2 [(0, .ref (ja 8 0)), (1, .int x)] := hl
  have hS : va_S (jA Rf) s.heap s.heap [] := va_S.rf
  have hb9 := hW.cnt.S3
  refine lv_iload_n hx hb dX8_findStation_0 rfl (lv_at hl 1 rfl) ?_
  refine lv_aload_n hx hb dX8_findStation_1 rfl (lv_at hl 0 rfl) ?_
  refine r1_get hC hK.1 (hW.ob (show jV M 8 0 from rfl)) lay_X8 rfl 1 (by decide) fl_X8_19 (fun x hx => hx) (v := .ref (ja 10 0)) rfl dX8_findStation_2 ?_
  refine jw_size hC hK hW.1 (i := 0) (Or.inl (by decide)) ml_X8_81 hl.1 (Nat.le_of_ble_eq_true rfl) ⟨Nat.le_of_ble_eq_true rfl, Nat.le_of_ble_eq_true rfl, (by show 0 ≤ 1; omega), (by show 0 ≤ 6; omega)⟩ dX8_findStation_5 ?_
  refine top_i (y := nI (nS M)) rfl ?_
  exact jx_call (run_SX hC (cJ_X8_requireNumberX l G d0 mi Rf ja M E x (nS M) (by assumption) (by omega) hl9) (As := [.int x, .int (nI (nS M))]) (rest := []) rfl rfl ml_X8_297 sm_X8_requireNumber ini_X8 cd_X8_requireNumber na_X8_requireNumber jT_blind (jT_at hX hT9 hRf hW hS) hl.1 (Nat.le_of_ble_eq_true rfl) ⟨Nat.le_of_ble_eq_true rfl, Nat.le_of_ble_eq_true rfl⟩ ⟨Nat.le_refl _, Nat.le_refl _⟩ rfl dX8_findStation_8) hQ hex hlk
set_option maxHeartbeats 4000000 in
set_option maxRecDepth 100000 in
theorem cJ_X8_findTray (l : Launch) (G : gG) (d0 mi : Nat) (Rf : Nat → Prop) (ja : Nat → Nat → Nat) (M : MS) (E : ES) (x : Nat) (h1 : x < nT M) : Met l yX8_findTray (wB yX8_findTray cX8_findTray 2 (some (.object "ShelfSwarm$Tray"))) (rmL 4 0 0) (va_Pc [.ref (ja 8 0), .int (nI x)] (jB G d0 mi Rf ja M E)) (k2_QcV (.ref (ja 7 (x)))) 0 0 fN := by
  refine st_N (own := RX8) (by decide +kernel) rfl (Nat.le_of_ble_eq_true rfl) ?_
  intro p e s m below meth c ls args Q hQ hC hr hlk hnm hl hP
  obtain ⟨hW, hX, hRf⟩ := hP
  have hK := hX.1
  have hx := hC.1
  have hb := hC.2.1
  have hl : lv_has ls 2 [(0, .ref (ja 8 0)), (1, .int (nI x))] := hl
  have hS : va_S (jA Rf) s.heap s.heap [] := va_S.rf
  have hb9 := hW.cnt.T16
  refine lv_iload_n hx hb dX8_findTray_0 rfl (lv_at hl 1 rfl) ?_
  refine lv_aload_n hx hb dX8_findTray_1 rfl (lv_at hl 0 rfl) ?_
  refine r1_get hC hK.1 (hW.ob (show jV M 8 0 from rfl)) lay_X8 rfl 2 (by decide) fl_X8_23 (fun x hx => hx) (v := .ref (ja 10 1)) rfl dX8_findTray_2 ?_
  refine jw_size hC hK hW.1 (i := 1) (Or.inl (by decide)) ml_X8_81 hl.1 (Nat.le_of_ble_eq_true rfl) ⟨Nat.le_of_ble_eq_true rfl, Nat.le_of_ble_eq_true rfl, Nat.le_refl _, Nat.le_refl _⟩ dX8_findTray_5 ?_
  refine top_i (y := nI (nT M)) rfl ?_
  refine cl_pv (run_S hC (cJ_X8_requireNumber l x (nT M) (by omega) (by omega)) (As := [.int (nI x), .int (nI (nT M))]) (rest := []) rfl rfl ml_X8_297 sm_X8_requireNumber ini_X8 cd_X8_requireNumber na_X8_requireNumber tB_blind (fun _ _ _ => trivial) hl.1 (Nat.le_of_ble_eq_true rfl) ⟨Nat.le_of_ble_eq_true rfl, Nat.le_of_ble_eq_true rfl⟩ ⟨Nat.le_refl _, Nat.le_refl _⟩ rfl dX8_findTray_8) ?_
  refine lv_aload_n hx hb dX8_findTray_11 rfl (lv_at hl 0 rfl) ?_
  refine r1_get hC hK.1 (hW.ob (show jV M 8 0 from rfl)) lay_X8 rfl 2 (by decide) fl_X8_23 (fun x hx => hx) (v := .ref (ja 10 1)) rfl dX8_findTray_12 ?_
  refine lv_iload_n hx hb dX8_findTray_15 rfl (lv_at hl 1 rfl) ?_
  refine jw_get hC hK hW.1 (i := 1) (j := x) (Or.inl (by decide)) (show x < jn M E 1 from (by show x < nT M; omega)) ml_X8_263 hl.1 (Nat.le_of_ble_eq_true rfl) ⟨Nat.le_of_ble_eq_true rfl, Nat.le_of_ble_eq_true rfl, Nat.le_refl _, Nat.le_refl _⟩ dX8_findTray_16 ?_
  refine jw_cast hC hK (hW.ob (show jV M 7 x from (by show x < nT M; omega))) rfl cl_X8_108 dX8_findTray_19 ?_
  subst hQ
  exact rt_a (r := some (ja 7 x)) hx hb hr (Or.inl ⟨_, rfl⟩) hlk rfl rfl dX8_findTray_22
set_option maxHeartbeats 4000000 in
set_option maxRecDepth 100000 in
theorem cJ_X8_findTrayX (l : Launch) (G : gG) (d0 mi : Nat) (Rf : Nat → Prop) (ja : Nat → Nat → Nat) (M : MS) (E : ES) (x : Int32) (hno : inB x (nI (nT M)) = false) (hl9 : l.stackTraces = false) : vx_Met l yX8_findTray (wB yX8_findTray cX8_findTray 2 (some (.object "ShelfSwarm$Tray"))) (rmL 4 1 6) (va_Pc [.ref (ja 8 0), .int x] (jT G d0 mi Rf ja M E)) xQ (xN xIOE) 1 6 (jA Rf) := by
  refine st_X (own := RX8) (by decide +kernel) rfl (Nat.le_of_ble_eq_true rfl) ?_
  intro p e s m below meth c ls args Q hQ hC hr hlk hex hl hP
  obtain ⟨⟨hW, hX, hRf⟩, hT9⟩ := hP
  have hK := hX.1
  have hx := hC.1
  have hb := hC.2.1
  have hl : lv_has ls 2 [(0, .ref (ja 8 0)), (1, .int x)] := hl
  have hS : va_S (jA Rf) s.heap s.heap [] := va_S.rf
  have hb9 := hW.cnt.T16
  refine lv_iload_n hx hb dX8_findTray_0 rfl (lv_at hl 1 rfl) ?_
  refine lv_aload_n hx hb dX8_findTray_1 rfl (lv_at hl 0 rfl) ?_
  refine r1_get hC hK.1 (hW.ob (show jV M 8 0 from rfl)) lay_X8 rfl 2 (by decide) fl_X8_23 (fun x hx => hx) (v := .ref (ja 10 1)) rfl dX8_findTray_2 ?_
  refine jw_size hC hK hW.1 (i := 1) (Or.inl (by decide)) ml_X8_81 hl.1 (Nat.le_of_ble_eq_true rfl) ⟨Nat.le_of_ble_eq_true rfl, Nat.le_of_ble_eq_true rfl, (by show 0 ≤ 1; omega), (by show 0 ≤ 6; omega)⟩ dX8_findTray_5 ?_
  refine top_i (y := nI (nT M)) rfl ?_
  exact jx_call (run_SX hC (cJ_X8_requireNumberX l G d0 mi Rf ja M E x (nT M) (by assumption) (by omega) hl9) (As := [.int x, .int (nI (nT M))]) (rest := []) rfl rfl ml_X8_297 sm_X8_requireNumber ini_X8 cd_X8_requireNumber na_X8_requireNumber jT_blind (jT_at hX hT9 hRf hW hS) hl.1 (Nat.le_of_ble_eq_true rfl) ⟨Nat.le_of_ble_eq_true rfl, Nat.le_of_ble_eq_true rfl⟩ ⟨Nat.le_refl _, Nat.le_refl _⟩ rfl dX8_findTray_8) hQ hex hlk
set_option maxHeartbeats 4000000 in
set_option maxRecDepth 100000 in
theorem cJ_X8_findOrder (l : Launch) (G : gG) (d0 mi : Nat) (Rf : Nat → Prop) (ja : Nat → Nat → Nat) (M : MS) (E : ES) (x : Nat) (h1 : x < nO M) : Met l yX8_findOrder (wB yX8_findOrder cX8_findOrder 2 (some (.object "ShelfSwarm$Order"))) (rmL 4 0 0) (va_Pc [.ref (ja 8 0), .int (nI x)] (jB G d0 mi Rf ja M E)) (k2_QcV (.ref (ja 3 (x)))) 0 0 fN := by
  refine st_N (own := RX8) (by decide +kernel) rfl (Nat.le_of_ble_eq_true rfl) ?_
  intro p e s m below meth c ls args Q hQ hC hr hlk hnm hl hP
  obtain ⟨hW, hX, hRf⟩ := hP
  have hK := hX.1
  have hx := hC.1
  have hb := hC.2.1
  have hl : lv_has ls 2 [(0, .ref (ja 8 0)), (1, .int (nI x))] := hl
  have hS : va_S (jA Rf) s.heap s.heap [] := va_S.rf
  have hb9 := hW.cnt.O10
  refine lv_iload_n hx hb dX8_findOrder_0 rfl (lv_at hl 1 rfl) ?_
  refine lv_aload_n hx hb dX8_findOrder_1 rfl (lv_at hl 0 rfl) ?_
  refine r1_get hC hK.1 (hW.ob (show jV M 8 0 from rfl)) lay_X8 rfl 3 (by decide) fl_X8_26 (fun x hx => hx) (v := .ref (ja 10 2)) rfl dX8_findOrder_2 ?_
  refine jw_size hC hK hW.1 (i := 2) (Or.inl (by decide)) ml_X8_81 hl.1 (Nat.le_of_ble_eq_true rfl) ⟨Nat.le_of_ble_eq_true rfl, Nat.le_of_ble_eq_true rfl, Nat.le_refl _, Nat.le_refl _⟩ dX8_findOrder_5 ?_
  refine top_i (y := nI (nO M)) rfl ?_
  refine cl_pv (run_S hC (cJ_X8_requireNumber l x (nO M) (by omega) (by omega)) (As := [.int (nI x), .int (nI (nO M))]) (rest := []) rfl rfl ml_X8_297 sm_X8_requireNumber ini_X8 cd_X8_requireNumber na_X8_requireNumber tB_blind (fun _ _ _ => trivial) hl.1 (Nat.le_of_ble_eq_true rfl) ⟨Nat.le_of_ble_eq_true rfl, Nat.le_of_ble_eq_true rfl⟩ ⟨Nat.le_refl _, Nat.le_refl _⟩ rfl dX8_findOrder_8) ?_
  refine lv_aload_n hx hb dX8_findOrder_11 rfl (lv_at hl 0 rfl) ?_
  refine r1_get hC hK.1 (hW.ob (show jV M 8 0 from rfl)) lay_X8 rfl 3 (by decide) fl_X8_26 (fun x hx => hx) (v := .ref (ja 10 2)) rfl dX8_findOrder_12 ?_
  refine lv_iload_n hx hb dX8_findOrder_15 rfl (lv_at hl 1 rfl) ?_
  refine jw_get hC hK hW.1 (i := 2) (j := x) (Or.inl (by decide)) (show x < jn M E 2 from (by show x < nO M; omega)) ml_X8_263 hl.1 (Nat.le_of_ble_eq_true rfl) ⟨Nat.le_of_ble_eq_true rfl, Nat.le_of_ble_eq_true rfl, Nat.le_refl _, Nat.le_refl _⟩ dX8_findOrder_16 ?_
  refine jw_cast hC hK (hW.ob (show jV M 3 x from (by show x < nO M; omega))) rfl cl_X8_131 dX8_findOrder_19 ?_
  subst hQ
  exact rt_a (r := some (ja 3 x)) hx hb hr (Or.inl ⟨_, rfl⟩) hlk rfl rfl dX8_findOrder_22
set_option maxHeartbeats 4000000 in
set_option maxRecDepth 100000 in
theorem cJ_X8_findOrderX (l : Launch) (G : gG) (d0 mi : Nat) (Rf : Nat → Prop) (ja : Nat → Nat → Nat) (M : MS) (E : ES) (x : Int32) (hno : inB x (nI (nO M)) = false) (hl9 : l.stackTraces = false) : vx_Met l yX8_findOrder (wB yX8_findOrder cX8_findOrder 2 (some (.object "ShelfSwarm$Order"))) (rmL 4 1 6) (va_Pc [.ref (ja 8 0), .int x] (jT G d0 mi Rf ja M E)) xQ (xN xIOE) 1 6 (jA Rf) := by
  refine st_X (own := RX8) (by decide +kernel) rfl (Nat.le_of_ble_eq_true rfl) ?_
  intro p e s m below meth c ls args Q hQ hC hr hlk hex hl hP
  obtain ⟨⟨hW, hX, hRf⟩, hT9⟩ := hP
  have hK := hX.1
  have hx := hC.1
  have hb := hC.2.1
  have hl : lv_has ls 2 [(0, .ref (ja 8 0)), (1, .int x)] := hl
  have hS : va_S (jA Rf) s.heap s.heap [] := va_S.rf
  have hb9 := hW.cnt.O10
  refine lv_iload_n hx hb dX8_findOrder_0 rfl (lv_at hl 1 rfl) ?_
  refine lv_aload_n hx hb dX8_findOrder_1 rfl (lv_at hl 0 rfl) ?_
  refine r1_get hC hK.1 (hW.ob (show jV M 8 0 from rfl)) lay_X8 rfl 3 (by decide) fl_X8_26 (fun x hx => hx) (v := .ref (ja 10 2)) rfl dX8_findOrder_2 ?_
  refine jw_size hC hK hW.1 (i := 2) (Or.inl (by decide)) ml_X8_81 hl.1 (Nat.le_of_ble_eq_true rfl) ⟨Nat.le_of_ble_eq_true rfl, Nat.le_of_ble_eq_true rfl, (by show 0 ≤ 1; omega), (by show 0 ≤ 6; omega)⟩ dX8_findOrder_5 ?_
  refine top_i (y := nI (nO M)) rfl ?_
  exact jx_call (run_SX hC (cJ_X8_requireNumberX l G d0 mi Rf ja M E x (nO M) (by assumption) (by omega) hl9) (As := [.int x, .int (nI (nO M))]) (rest := []) rfl rfl ml_X8_297 sm_X8_requireNumber ini_X8 cd_X8_requireNumber na_X8_requireNumber jT_blind (jT_at hX hT9 hRf hW hS) hl.1 (Nat.le_of_ble_eq_true rfl) ⟨Nat.le_of_ble_eq_true rfl, Nat.le_of_ble_eq_true rfl⟩ ⟨Nat.le_refl _, Nat.le_refl _⟩ rfl dX8_findOrder_8) hQ hex hlk
set_option maxHeartbeats 4000000 in
set_option maxRecDepth 100000 in
theorem cJ_X8_findRobot (l : Launch) (G : gG) (d0 mi : Nat) (Rf : Nat → Prop) (ja : Nat → Nat → Nat) (M : MS) (E : ES) (x : Nat) (h1 : x < nR M) : Met l yX8_findRobot (wB yX8_findRobot cX8_findRobot 2 (some (.object "ShelfSwarm$Robot"))) (rmL 4 0 0) (va_Pc [.ref (ja 8 0), .int (nI x)] (jB G d0 mi Rf ja M E)) (k2_QcV (.ref (ja 5 (x)))) 0 0 fN := by
  refine st_N (own := RX8) (by decide +kernel) rfl (Nat.le_of_ble_eq_true rfl) ?_
  intro p e s m below meth c ls args Q hQ hC hr hlk hnm hl hP
  obtain ⟨hW, hX, hRf⟩ := hP
  have hK := hX.1
  have hx := hC.1
  have hb := hC.2.1
  have hl : lv_has ls 2 [(0, .ref (ja 8 0)), (1, .int (nI x))] := hl
  have hS : va_S (jA Rf) s.heap s.heap [] := va_S.rf
  have hb9 := hW.cnt.R6
  refine lv_iload_n hx hb dX8_findRobot_0 rfl (lv_at hl 1 rfl) ?_
  refine lv_aload_n hx hb dX8_findRobot_1 rfl (lv_at hl 0 rfl) ?_
  refine r1_get hC hK.1 (hW.ob (show jV M 8 0 from rfl)) lay_X8 rfl 0 (by decide) fl_X8_10 (fun x hx => hx) (v := .ref (ja 0 0)) rfl dX8_findRobot_2 ?_
  refine r1_get hC hK.1 (hW.ob (show jV M 0 0 from rfl)) lay_X0 rfl 1 (by decide) fl_X8_191 (fun x hx => hx) (v := .ref (ja 10 4)) rfl dX8_findRobot_5 ?_
  refine jw_size hC hK hW.1 (i := 4) (Or.inl (by decide)) ml_X8_81 hl.1 (Nat.le_of_ble_eq_true rfl) ⟨Nat.le_of_ble_eq_true rfl, Nat.le_of_ble_eq_true rfl, Nat.le_refl _, Nat.le_refl _⟩ dX8_findRobot_8 ?_
  refine top_i (y := nI (nR M)) rfl ?_
  refine cl_pv (run_S hC (cJ_X8_requireNumber l x (nR M) (by omega) (by omega)) (As := [.int (nI x), .int (nI (nR M))]) (rest := []) rfl rfl ml_X8_297 sm_X8_requireNumber ini_X8 cd_X8_requireNumber na_X8_requireNumber tB_blind (fun _ _ _ => trivial) hl.1 (Nat.le_of_ble_eq_true rfl) ⟨Nat.le_of_ble_eq_true rfl, Nat.le_of_ble_eq_true rfl⟩ ⟨Nat.le_refl _, Nat.le_refl _⟩ rfl dX8_findRobot_11) ?_
  refine lv_aload_n hx hb dX8_findRobot_14 rfl (lv_at hl 0 rfl) ?_
  refine r1_get hC hK.1 (hW.ob (show jV M 8 0 from rfl)) lay_X8 rfl 0 (by decide) fl_X8_10 (fun x hx => hx) (v := .ref (ja 0 0)) rfl dX8_findRobot_15 ?_
  refine r1_get hC hK.1 (hW.ob (show jV M 0 0 from rfl)) lay_X0 rfl 1 (by decide) fl_X8_191 (fun x hx => hx) (v := .ref (ja 10 4)) rfl dX8_findRobot_18 ?_
  refine lv_iload_n hx hb dX8_findRobot_21 rfl (lv_at hl 1 rfl) ?_
  refine jw_get hC hK hW.1 (i := 4) (j := x) (Or.inl (by decide)) (show x < jn M E 4 from (by show x < nR M; omega)) ml_X8_263 hl.1 (Nat.le_of_ble_eq_true rfl) ⟨Nat.le_of_ble_eq_true rfl, Nat.le_of_ble_eq_true rfl, Nat.le_refl _, Nat.le_refl _⟩ dX8_findRobot_22 ?_
  refine jw_cast hC hK (hW.ob (show jV M 5 x from (by show x < nR M; omega))) rfl cl_X8_174 dX8_findRobot_25 ?_
  subst hQ
  exact rt_a (r := some (ja 5 x)) hx hb hr (Or.inl ⟨_, rfl⟩) hlk rfl rfl dX8_findRobot_28
set_option maxHeartbeats 4000000 in
set_option maxRecDepth 100000 in
theorem cJ_X8_findRobotX (l : Launch) (G : gG) (d0 mi : Nat) (Rf : Nat → Prop) (ja : Nat → Nat → Nat) (M : MS) (E : ES) (x : Int32) (hno : inB x (nI (nR M)) = false) (hl9 : l.stackTraces = false) : vx_Met l yX8_findRobot (wB yX8_findRobot cX8_findRobot 2 (some (.object "ShelfSwarm$Robot"))) (rmL 4 1 6) (va_Pc [.ref (ja 8 0), .int x] (jT G d0 mi Rf ja M E)) xQ (xN xIOE) 1 6 (jA Rf) := by
  refine st_X (own := RX8) (by decide +kernel) rfl (Nat.le_of_ble_eq_true rfl) ?_
  intro p e s m below meth c ls args Q hQ hC hr hlk hex hl hP
  obtain ⟨⟨hW, hX, hRf⟩, hT9⟩ := hP
  have hK := hX.1
  have hx := hC.1
  have hb := hC.2.1
  have hl : lv_has ls 2 [(0, .ref (ja 8 0)), (1, .int x)] := hl
  have hS : va_S (jA Rf) s.heap s.heap [] := va_S.rf
  have hb9 := hW.cnt.R6
  refine lv_iload_n hx hb dX8_findRobot_0 rfl (lv_at hl 1 rfl) ?_
  refine lv_aload_n hx hb dX8_findRobot_1 rfl (lv_at hl 0 rfl) ?_
  refine r1_get hC hK.1 (hW.ob (show jV M 8 0 from rfl)) lay_X8 rfl 0 (by decide) fl_X8_10 (fun x hx => hx) (v := .ref (ja 0 0)) rfl dX8_findRobot_2 ?_
  refine r1_get hC hK.1 (hW.ob (show jV M 0 0 from rfl)) lay_X0 rfl 1 (by decide) fl_X8_191 (fun x hx => hx) (v := .ref (ja 10 4)) rfl dX8_findRobot_5 ?_
  refine jw_size hC hK hW.1 (i := 4) (Or.inl (by decide)) ml_X8_81 hl.1 (Nat.le_of_ble_eq_true rfl) ⟨Nat.le_of_ble_eq_true rfl, Nat.le_of_ble_eq_true rfl, (by show 0 ≤ 1; omega), (by show 0 ≤ 6; omega)⟩ dX8_findRobot_8 ?_
  refine top_i (y := nI (nR M)) rfl ?_
  exact jx_call (run_SX hC (cJ_X8_requireNumberX l G d0 mi Rf ja M E x (nR M) (by assumption) (by omega) hl9) (As := [.int x, .int (nI (nR M))]) (rest := []) rfl rfl ml_X8_297 sm_X8_requireNumber ini_X8 cd_X8_requireNumber na_X8_requireNumber jT_blind (jT_at hX hT9 hRf hW hS) hl.1 (Nat.le_of_ble_eq_true rfl) ⟨Nat.le_of_ble_eq_true rfl, Nat.le_of_ble_eq_true rfl⟩ ⟨Nat.le_refl _, Nat.le_refl _⟩ rfl dX8_findRobot_11) hQ hex hlk
set_option maxHeartbeats 4000000 in
set_option maxRecDepth 100000 in
theorem cJ_X8_findPick (l : Launch) (G : gG) (d0 mi : Nat) (Rf : Nat → Prop) (ja : Nat → Nat → Nat) (M : MS) (E : ES) (x : Nat) (h1 : x < nP M) (hp15 : nP M ≤ 1500) : Met l yX8_findPick (wB yX8_findPick cX8_findPick 2 (some (.object "ShelfSwarm$Pick"))) (rmL 4 0 0) (va_Pc [.ref (ja 8 0), .int (nI x)] (jB G d0 mi Rf ja M E)) (k2_QcV (.ref (ja 4 (x)))) 0 0 fN := by
  refine st_N (own := RX8) (by decide +kernel) rfl (Nat.le_of_ble_eq_true rfl) ?_
  intro p e s m below meth c ls args Q hQ hC hr hlk hnm hl hP
  obtain ⟨hW, hX, hRf⟩ := hP
  have hK := hX.1
  have hx := hC.1
  have hb := hC.2.1
  have hl : lv_has ls 2 [(0, .ref (ja 8 0)), (1, .int (nI x))] := hl
  have hS : va_S (jA Rf) s.heap s.heap [] := va_S.rf
  have hb9 := hp15
  refine lv_iload_n hx hb dX8_findPick_0 rfl (lv_at hl 1 rfl) ?_
  refine lv_aload_n hx hb dX8_findPick_1 rfl (lv_at hl 0 rfl) ?_
  refine r1_get hC hK.1 (hW.ob (show jV M 8 0 from rfl)) lay_X8 rfl 4 (by decide) fl_X8_29 (fun x hx => hx) (v := .ref (ja 10 3)) rfl dX8_findPick_2 ?_
  refine jw_size hC hK hW.1 (i := 3) (Or.inl (by decide)) ml_X8_81 hl.1 (Nat.le_of_ble_eq_true rfl) ⟨Nat.le_of_ble_eq_true rfl, Nat.le_of_ble_eq_true rfl, Nat.le_refl _, Nat.le_refl _⟩ dX8_findPick_5 ?_
  refine top_i (y := nI (nP M)) rfl ?_
  refine cl_pv (run_S hC (cJ_X8_requireNumber l x (nP M) (by omega) (by omega)) (As := [.int (nI x), .int (nI (nP M))]) (rest := []) rfl rfl ml_X8_297 sm_X8_requireNumber ini_X8 cd_X8_requireNumber na_X8_requireNumber tB_blind (fun _ _ _ => trivial) hl.1 (Nat.le_of_ble_eq_true rfl) ⟨Nat.le_of_ble_eq_true rfl, Nat.le_of_ble_eq_true rfl⟩ ⟨Nat.le_refl _, Nat.le_refl _⟩ rfl dX8_findPick_8) ?_
  refine lv_aload_n hx hb dX8_findPick_11 rfl (lv_at hl 0 rfl) ?_
  refine r1_get hC hK.1 (hW.ob (show jV M 8 0 from rfl)) lay_X8 rfl 4 (by decide) fl_X8_29 (fun x hx => hx) (v := .ref (ja 10 3)) rfl dX8_findPick_12 ?_
  refine lv_iload_n hx hb dX8_findPick_15 rfl (lv_at hl 1 rfl) ?_
  refine jw_get hC hK hW.1 (i := 3) (j := x) (Or.inl (by decide)) (show x < jn M E 3 from (by show x < nP M; omega)) ml_X8_263 hl.1 (Nat.le_of_ble_eq_true rfl) ⟨Nat.le_of_ble_eq_true rfl, Nat.le_of_ble_eq_true rfl, Nat.le_refl _, Nat.le_refl _⟩ dX8_findPick_16 ?_
  refine jw_cast hC hK (hW.ob (show jV M 4 x from (by show x < nP M; omega))) rfl cl_X8_273 dX8_findPick_19 ?_
  subst hQ
  exact rt_a (r := some (ja 4 x)) hx hb hr (Or.inl ⟨_, rfl⟩) hlk rfl rfl dX8_findPick_22
set_option maxHeartbeats 4000000 in
set_option maxRecDepth 100000 in
theorem cJ_X8_findPickX (l : Launch) (G : gG) (d0 mi : Nat) (Rf : Nat → Prop) (ja : Nat → Nat → Nat) (M : MS) (E : ES) (x : Int32) (hno : inB x (nI (nP M)) = false) (hp15 : nP M ≤ 1500) (hl9 : l.stackTraces = false) : vx_Met l yX8_findPick (wB yX8_findPick cX8_findPick 2 (some (.object "ShelfSwarm$Pick"))) (rmL 4 1 6) (va_Pc [.ref (ja 8 0), .int x] (jT G d0 mi Rf ja M E)) xQ (xN xIOE) 1 6 (jA Rf) := by
  refine st_X (own := RX8) (by decide +kernel) rfl (Nat.le_of_ble_eq_true rfl) ?_
  intro p e s m below meth c ls args Q hQ hC hr hlk hex hl hP
  obtain ⟨⟨hW, hX, hRf⟩, hT9⟩ := hP
  have hK := hX.1
  have hx := hC.1
  have hb := hC.2.1
  have hl : lv_has ls 2 [(0, .ref (ja 8 0)), (1, .int x)] := hl
  have hS : va_S (jA Rf) s.heap s.heap [] := va_S.rf
  have hb9 := hp15
  refine lv_iload_n hx hb dX8_findPick_0 rfl (lv_at hl 1 rfl) ?_
  refine lv_aload_n hx hb dX8_findPick_1 rfl (lv_at hl 0 rfl) ?_
  refine r1_get hC hK.1 (hW.ob (show jV M 8 0 from rfl)) lay_X8 rfl 4 (by decide) fl_X8_29 (fun x hx => hx) (v := .ref (ja 10 3)) rfl dX8_findPick_2 ?_
  refine jw_size hC hK hW.1 (i := 3) (Or.inl (by decide)) ml_X8_81 hl.1 (Nat.le_of_ble_eq_true rfl) ⟨Nat.le_of_ble_eq_true rfl, Nat.le_of_ble_eq_true rfl, (by show 0 ≤ 1; omega), (by show 0 ≤ 6; omega)⟩ dX8_findPick_5 ?_
  refine top_i (y := nI (nP M)) rfl ?_
  exact jx_call (run_SX hC (cJ_X8_requireNumberX l G d0 mi Rf ja M E x (nP M) (by assumption) (by omega) hl9) (As := [.int x, .int (nI (nP M))]) (rest := []) rfl rfl ml_X8_297 sm_X8_requireNumber ini_X8 cd_X8_requireNumber na_X8_requireNumber jT_blind (jT_at hX hT9 hRf hW hS) hl.1 (Nat.le_of_ble_eq_true rfl) ⟨Nat.le_of_ble_eq_true rfl, Nat.le_of_ble_eq_true rfl⟩ ⟨Nat.le_refl _, Nat.le_refl _⟩ rfl dX8_findPick_8) hQ hex hlk
set_option maxHeartbeats 4000000 in
set_option maxRecDepth 100000 in
theorem cJ_X8_isHome (l : Launch) (G : gG) (d0 mi : Nat) (Rf : Nat → Prop) (ja : Nat → Nat → Nat) (M : MS) (E : ES) (x : Int32) : Met l yX8_isHome (wB yX8_isHome cX8_isHome 3 (some .boolean)) (rmL 4 0 0) (va_Pc [.ref (ja 8 0), .int x] (jB G d0 mi Rf ja M E)) (k2_QcV (.int (bI ((hmA M x).isSome)))) 0 0 fN := by
  refine st_N (own := RX8) (by decide +kernel) rfl (Nat.le_of_ble_eq_true rfl) ?_
  intro p e s m below meth c ls args Q hQ hC hr hlk hnm hl hP
  obtain ⟨hW, hX, hRf⟩ := hP
  have hK := hX.1
  have hx := hC.1
  have hb := hC.2.1
  have hl : lv_has ls 3 [(0, .ref (ja 8 0)), (1, .int x)] := hl
  have hS : va_S (jA Rf) s.heap s.heap [] := va_S.rf
  refine lv_iconst (v := 0) hx hb dX8_isHome_0 (by decide) ?_
  refine lv_istore_n (lv' := [(2, .int 0), (0, .ref (ja 8 0)), (1, .int x)]) hx hb dX8_isHome_1 rfl hl (by decide) rfl (fun ls hl => ?_)
  have loop1 : ∀ (n_ : Nat) (i : Nat) (hi : i ≤ nT M) (hno : ∀ k, k < i → decide (M 7 k = x) = false) (ls : Array Slot), nT M - i < n_ → lv_has ls 3 [(2, .int (nI i)), (0, .ref (ja 8 0)), (1, .int x)] → W p l e (rmL 4 0 0) s m args below meth c s.heap [] 0 0 Q (F0 m 2 ls []) := by
    intro n_
    induction n_ with
    | zero => intro i hi hno ls hm hl; omega
    | succ n_ ih1 =>
      intro i hi hno ls hm hl
      have h6 := hW.cnt.T16
      refine lv_iload_n hx hb dX8_isHome_2 rfl (lv_at hl 0 rfl) ?_
      refine lv_aload_n hx hb dX8_isHome_3 rfl (lv_at hl 1 rfl) ?_
      refine r1_get hC hK.1 (hW.ob (show jV M 8 0 from rfl)) lay_X8 rfl 2 (by decide) fl_X8_23 (fun x hx => hx) (v := .ref (ja 10 1)) rfl dX8_isHome_4 ?_
      refine jw_size hC hK hW.1 (i := 1) (Or.inl (by decide)) ml_X8_81 hl.1 (Nat.le_of_ble_eq_true rfl) ⟨Nat.le_of_ble_eq_true rfl, Nat.le_of_ble_eq_true rfl, Nat.le_refl _, Nat.le_refl _⟩ dX8_isHome_7 ?_
      refine top_i (y := nI (nT M)) rfl ?_
      refine ln_ge (tgt := 39) (a := i) (b := (nT M)) hx hb dX8_isHome_10 (by decide) rfl rfl (by omega) (by omega) (fun c_2t => ?_) (fun c_2f => ?_)
      · refine lv_iconst (v := 0) hx hb dX8_isHome_39 (by decide) ?_
        subst hQ
        exact rt_z hx hb hr hlk (bI_0 (by rw [show hmA M x = none from lastE_none.mpr (fun k hk => of_decide_eq_false (hno k (by omega)))]; rfl)) dX8_isHome_40
      · refine lv_aload_n hx hb dX8_isHome_13 rfl (lv_at hl 1 rfl) ?_
        refine r1_get hC hK.1 (hW.ob (show jV M 8 0 from rfl)) lay_X8 rfl 2 (by decide) fl_X8_23 (fun x hx => hx) (v := .ref (ja 10 1)) rfl dX8_isHome_14 ?_
        refine lv_iload_n hx hb dX8_isHome_17 rfl (lv_at hl 0 rfl) ?_
        refine jw_get hC hK hW.1 (i := 1) (j := i) (Or.inl (by decide)) (show i < jn M E 1 from (by show i < nT M; omega)) ml_X8_263 hl.1 (Nat.le_of_ble_eq_true rfl) ⟨Nat.le_of_ble_eq_true rfl, Nat.le_of_ble_eq_true rfl, Nat.le_refl _, Nat.le_refl _⟩ dX8_isHome_18 ?_
        refine jw_cast hC hK (hW.ob (show jV M 7 i from (by show i < nT M; omega))) rfl cl_X8_108 dX8_isHome_21 ?_
        refine r1_get hC hK.1 (hW.ob (show jV M 7 i from (by show i < nT M; omega))) lay_X7 rfl 1 (by decide) fl_X8_185 (fun x hx => hx) (v := .int (M 7 i)) rfl dX8_isHome_24 ?_
        refine lv_iload_n hx hb dX8_isHome_27 rfl (lv_at hl 2 rfl) ?_
        refine lv_icmp_ne (tgt := 33) hx hb dX8_isHome_28 (by decide) (fun c_3t => ?_) (fun c_3f => ?_)
        · refine lv_iinc (v := nI (i + 1)) (lv' := [(2, .int (nI (i + 1))), (0, .ref (ja 8 0)), (1, .int x)]) hx hb dX8_isHome_33 hl (k := 0) rfl (nI_inc _) (by decide) rfl (fun ls hl => ?_)
          refine lv_goto (tgt := 2) hx hb dX8_isHome_36 (by decide) ?_
          exact ih1 (i + 1) (by omega) (lt_s hno (decide_eq_false c_3t)) ls (by omega) (lv_sub hl [0, 1, 2] rfl)
        · refine lv_iconst (v := 1) hx hb dX8_isHome_31 (by decide) ?_
          subst hQ
          exact rt_z hx hb hr hlk (bI_1 (by cases h9 : hmA M x with | some _ => rfl | none => exact absurd c_3f (lastE_none.mp h9 i (by omega)))) dX8_isHome_32
  exact loop1 ((nT M - 0) + 1) 0 (Nat.zero_le _) (fun k hk => absurd hk (Nat.not_lt_zero k)) ls (by omega) (lv_sub hl [0, 1, 2] rfl)
set_option maxHeartbeats 4000000 in
set_option maxRecDepth 100000 in
theorem cJ_X8_isStation (l : Launch) (G : gG) (d0 mi : Nat) (Rf : Nat → Prop) (ja : Nat → Nat → Nat) (M : MS) (E : ES) (x : Int32) : Met l yX8_isStation (wB yX8_isStation cX8_isStation 3 (some .boolean)) (rmL 4 0 0) (va_Pc [.ref (ja 8 0), .int x] (jB G d0 mi Rf ja M E)) (k2_QcV (.int (bI ((stA M x).isSome)))) 0 0 fN := by
  refine st_N (own := RX8) (by decide +kernel) rfl (Nat.le_of_ble_eq_true rfl) ?_
  intro p e s m below meth c ls args Q hQ hC hr hlk hnm hl hP
  obtain ⟨hW, hX, hRf⟩ := hP
  have hK := hX.1
  have hx := hC.1
  have hb := hC.2.1
  have hl : lv_has ls 3 [(0, .ref (ja 8 0)), (1, .int x)] := hl
  have hS : va_S (jA Rf) s.heap s.heap [] := va_S.rf
  refine lv_iconst (v := 0) hx hb dX8_isStation_0 (by decide) ?_
  refine lv_istore_n (lv' := [(2, .int 0), (0, .ref (ja 8 0)), (1, .int x)]) hx hb dX8_isStation_1 rfl hl (by decide) rfl (fun ls hl => ?_)
  have loop1 : ∀ (n_ : Nat) (i : Nat) (hi : i ≤ nS M) (hno : ∀ k, k < i → decide (M 5 k = x) = false) (ls : Array Slot), nS M - i < n_ → lv_has ls 3 [(2, .int (nI i)), (0, .ref (ja 8 0)), (1, .int x)] → W p l e (rmL 4 0 0) s m args below meth c s.heap [] 0 0 Q (F0 m 2 ls []) := by
    intro n_
    induction n_ with
    | zero => intro i hi hno ls hm hl; omega
    | succ n_ ih1 =>
      intro i hi hno ls hm hl
      have h6 := hW.cnt.S3
      refine lv_iload_n hx hb dX8_isStation_2 rfl (lv_at hl 0 rfl) ?_
      refine lv_aload_n hx hb dX8_isStation_3 rfl (lv_at hl 1 rfl) ?_
      refine r1_get hC hK.1 (hW.ob (show jV M 8 0 from rfl)) lay_X8 rfl 1 (by decide) fl_X8_19 (fun x hx => hx) (v := .ref (ja 10 0)) rfl dX8_isStation_4 ?_
      refine jw_size hC hK hW.1 (i := 0) (Or.inl (by decide)) ml_X8_81 hl.1 (Nat.le_of_ble_eq_true rfl) ⟨Nat.le_of_ble_eq_true rfl, Nat.le_of_ble_eq_true rfl, Nat.le_refl _, Nat.le_refl _⟩ dX8_isStation_7 ?_
      refine top_i (y := nI (nS M)) rfl ?_
      refine ln_ge (tgt := 39) (a := i) (b := (nS M)) hx hb dX8_isStation_10 (by decide) rfl rfl (by omega) (by omega) (fun c_2t => ?_) (fun c_2f => ?_)
      · refine lv_iconst (v := 0) hx hb dX8_isStation_39 (by decide) ?_
        subst hQ
        exact rt_z hx hb hr hlk (bI_0 (by rw [show stA M x = none from lastE_none.mpr (fun k hk => of_decide_eq_false (hno k (by omega)))]; rfl)) dX8_isStation_40
      · refine lv_aload_n hx hb dX8_isStation_13 rfl (lv_at hl 1 rfl) ?_
        refine r1_get hC hK.1 (hW.ob (show jV M 8 0 from rfl)) lay_X8 rfl 1 (by decide) fl_X8_19 (fun x hx => hx) (v := .ref (ja 10 0)) rfl dX8_isStation_14 ?_
        refine lv_iload_n hx hb dX8_isStation_17 rfl (lv_at hl 0 rfl) ?_
        refine jw_get hC hK hW.1 (i := 0) (j := i) (Or.inl (by decide)) (show i < jn M E 0 from (by show i < nS M; omega)) ml_X8_263 hl.1 (Nat.le_of_ble_eq_true rfl) ⟨Nat.le_of_ble_eq_true rfl, Nat.le_of_ble_eq_true rfl, Nat.le_refl _, Nat.le_refl _⟩ dX8_isStation_18 ?_
        refine jw_cast hC hK (hW.ob (show jV M 6 i from (by show i < nS M; omega))) rfl cl_X8_87 dX8_isStation_21 ?_
        refine r1_get hC hK.1 (hW.ob (show jV M 6 i from (by show i < nS M; omega))) lay_X6 rfl 1 (by decide) fl_X8_300 (fun x hx => hx) (v := .int (M 5 i)) rfl dX8_isStation_24 ?_
        refine lv_iload_n hx hb dX8_isStation_27 rfl (lv_at hl 2 rfl) ?_
        refine lv_icmp_ne (tgt := 33) hx hb dX8_isStation_28 (by decide) (fun c_3t => ?_) (fun c_3f => ?_)
        · refine lv_iinc (v := nI (i + 1)) (lv' := [(2, .int (nI (i + 1))), (0, .ref (ja 8 0)), (1, .int x)]) hx hb dX8_isStation_33 hl (k := 0) rfl (nI_inc _) (by decide) rfl (fun ls hl => ?_)
          refine lv_goto (tgt := 2) hx hb dX8_isStation_36 (by decide) ?_
          exact ih1 (i + 1) (by omega) (lt_s hno (decide_eq_false c_3t)) ls (by omega) (lv_sub hl [0, 1, 2] rfl)
        · refine lv_iconst (v := 1) hx hb dX8_isStation_31 (by decide) ?_
          subst hQ
          exact rt_z hx hb hr hlk (bI_1 (by cases h9 : stA M x with | some _ => rfl | none => exact absurd c_3f (lastE_none.mp h9 i (by omega)))) dX8_isStation_32
  exact loop1 ((nS M - 0) + 1) 0 (Nat.zero_le _) (fun k hk => absurd hk (Nat.not_lt_zero k)) ls (by omega) (lv_sub hl [0, 1, 2] rfl)
set_option maxHeartbeats 4000000 in
set_option maxRecDepth 100000 in
theorem cJ_X8_numberOf (l : Launch) (G : gG) (d0 mi : Nat) (Rf : Nat → Prop) (ja : Nat → Nat → Nat) (M : MS) (E : ES) (t : Nat) (h_t : t < nT M) : Met l yX8_numberOf (wB yX8_numberOf cX8_numberOf 1 (some .int)) (rmL 1 0 0) (va_Pc [.ref (ja 7 t)] (jB G d0 mi Rf ja M E)) (k2_QcV (.int (nI t))) 0 0 fN := by
  refine st_N (own := RX8) (by decide +kernel) rfl (Nat.le_of_ble_eq_true rfl) ?_
  intro p e s m below meth c ls args Q hQ hC hr hlk hnm hl hP
  obtain ⟨hW, hX, hRf⟩ := hP
  have hK := hX.1
  have hx := hC.1
  have hb := hC.2.1
  have hl : lv_has ls 1 [(0, .ref (ja 7 t))] := hl
  have hS : va_S (jA Rf) s.heap s.heap [] := va_S.rf
  have h16 := hW.cnt.T16
  refine lv_aload_n hx hb dX8_numberOf_0 rfl (lv_at hl 0 rfl) ?_
  refine lv_ifnonnull (tgt := 8) hx hb dX8_numberOf_1 (by decide) ?_
  refine lv_aload_n hx hb dX8_numberOf_8 rfl (lv_at hl 0 rfl) ?_
  refine r1_get hC hK.1 (hW.ob (show jV M 7 t from h_t)) lay_X7 rfl 0 (by decide) fl_X8_115 (fun x hx => hx) (v := .int (nI t)) rfl dX8_numberOf_9 ?_
  subst hQ
  exact rt_i hx hb hr hlk (rfl) dX8_numberOf_12
set_option maxHeartbeats 4000000 in
set_option maxRecDepth 100000 in
theorem cJ_X8_numberOfN (l : Launch) : Met l yX8_numberOf (wB yX8_numberOf cX8_numberOf 1 (some .int)) (rmL 1 0 0) (va_Pc [.null] (fun _ => True)) (k2_QcV (.int ((-1 : Int32)))) 0 0 fN := by
  refine st_N (own := RX8) (by decide +kernel) rfl (Nat.le_of_ble_eq_true rfl) ?_
  intro p e s m below meth c ls args Q hQ hC hr hlk hnm hl hP
  have hx := hC.1
  have hb := hC.2.1
  have hl : lv_has ls 1 [(0, .null)] := hl
  refine lv_aload_nN hx hb dX8_numberOf_0 rfl (lv_at hl 0 rfl) ?_
  refine lv_ifnonnullN hx hb dX8_numberOf_1 ?_
  refine lv_iconst (v := (-1)) hx hb dX8_numberOf_4 (by decide) ?_
  refine lv_goto (tgt := 12) hx hb dX8_numberOf_5 (by decide) ?_
  subst hQ
  exact rt_i hx hb hr hlk (rfl) dX8_numberOf_12
set_option maxHeartbeats 4000000 in
set_option maxRecDepth 100000 in
theorem cJ_X8_findLine (l : Launch) (G : gG) (d0 mi : Nat) (Rf : Nat → Prop) (ja : Nat → Nat → Nat) (M : MS) (E : ES) (o : Nat) (k : Nat) (h1 : o < nO M) (h2 : k < nL M o) : Met l yX8_findLine (wB yX8_findLine cX8_findLine 4 (some (.object "ShelfSwarm$Line"))) (rmL 5 0 0) (va_Pc [.ref (ja 8 0), .int (nI o), .int (nI k)] (jB G d0 mi Rf ja M E)) (k2_QcV (.ref (ja 2 (3 * o + k)))) 0 0 fN := by
  refine st_N (own := RX8) (by decide +kernel) rfl (Nat.le_of_ble_eq_true rfl) ?_
  intro p e s m below meth c ls args Q hQ hC hr hlk hnm hl hP
  obtain ⟨hW, hX, hRf⟩ := hP
  have hK := hX.1
  have hx := hC.1
  have hb := hC.2.1
  have hl : lv_has ls 4 [(0, .ref (ja 8 0)), (1, .int (nI o)), (2, .int (nI k))] := hl
  have hS : va_S (jA Rf) s.heap s.heap [] := va_S.rf
  have hO := hW.cnt.O10
  have hL := hW.cnt.L3 (o := o) (by omega)
  have hv2 : VL M (3 * o + k) = true := VL_ok h1 h2 hL
  refine lv_aload_n hx hb dX8_findLine_0 rfl (lv_at hl 0 rfl) ?_
  refine lv_iload_n hx hb dX8_findLine_1 rfl (lv_at hl 1 rfl) ?_
  refine cl_p (run_V hC (cJ_X8_findOrder l G d0 mi Rf ja M E o (by omega)) (As := [.int (nI o)]) (rest := []) rfl rfl ml_X8_136 im_X8_findOrder se_X8_findOrder ini_X8 cd_X8_findOrder ⟨rfl, na_X8_findOrder⟩ jB_blind (hW.recv hK (show jV M 8 0 from rfl) rfl) (jB_at hX hRf hW hS) hl.1 (Nat.le_of_ble_eq_true rfl) ⟨Nat.le_of_ble_eq_true rfl, Nat.le_of_ble_eq_true rfl⟩ ⟨Nat.le_refl _, Nat.le_refl _⟩ rfl dX8_findLine_2) ?_
  refine r1_get hC hK.1 (hW.ob (show jV M 3 o from h1)) lay_X3 rfl 1 (by decide) fl_X8_140 (fun x hx => hx) (v := .ref (ja 10 (7 + o))) rfl dX8_findLine_5 ?_
  refine lv_astore_n (lv' := [(3, .ref (ja 10 (7 + o))), (0, .ref (ja 8 0)), (1, .int (nI o)), (2, .int (nI k))]) hx hb dX8_findLine_8 rfl hl (by decide) rfl (fun ls hl => ?_)
  refine lv_iload_n hx hb dX8_findLine_9 rfl (lv_at hl 3 rfl) ?_
  refine lv_aload_n hx hb dX8_findLine_10 rfl (lv_at hl 0 rfl) ?_
  refine jw_size hC hK hW.1 (i := (7 + o)) (by unfold jLV; omega) ml_X8_81 hl.1 (Nat.le_of_ble_eq_true rfl) ⟨Nat.le_of_ble_eq_true rfl, Nat.le_of_ble_eq_true rfl, Nat.le_refl _, Nat.le_refl _⟩ dX8_findLine_11 ?_
  refine top_i (y := nI (nL M o)) (congrArg nI (jn_7 (by have := hW.cnt.O10; omega))) ?_
  refine cl_pv (run_S hC (cJ_X8_requireNumber l k (nL M o) (by omega) (by omega)) (As := [.int (nI k), .int (nI (nL M o))]) (rest := []) rfl rfl ml_X8_297 sm_X8_requireNumber ini_X8 cd_X8_requireNumber na_X8_requireNumber tB_blind (fun _ _ _ => trivial) hl.1 (Nat.le_of_ble_eq_true rfl) ⟨Nat.le_of_ble_eq_true rfl, Nat.le_of_ble_eq_true rfl⟩ ⟨Nat.le_refl _, Nat.le_refl _⟩ rfl dX8_findLine_14) ?_
  refine lv_aload_n hx hb dX8_findLine_17 rfl (lv_at hl 0 rfl) ?_
  refine lv_iload_n hx hb dX8_findLine_18 rfl (lv_at hl 3 rfl) ?_
  refine jw_get hC hK hW.1 (i := (7 + o)) (j := k) (by unfold jLV; omega) (show k < jn M E (7 + o) from (by first | omega | (rw [jn_7 (by have := hW.cnt.O10; omega)]; omega) | (rw [jn_17]; omega))) ml_X8_263 hl.1 (Nat.le_of_ble_eq_true rfl) ⟨Nat.le_of_ble_eq_true rfl, Nat.le_of_ble_eq_true rfl, Nat.le_refl _, Nat.le_refl _⟩ dX8_findLine_19 ?_
  refine top_r (y := (ja 2 (3 * o + k))) (jc_7 (by have := hW.cnt.O10; omega)) ?_
  refine jw_cast hC hK (hW.ob (show jV M 2 (3 * o + k) from hv2)) rfl cl_X8_145 dX8_findLine_22 ?_
  subst hQ
  exact rt_a (r := some (ja 2 (3 * o + k))) hx hb hr (Or.inl ⟨_, rfl⟩) hlk rfl rfl dX8_findLine_25
set_option maxHeartbeats 4000000 in
set_option maxRecDepth 100000 in
theorem cJ_X8_findLineX (l : Launch) (G : gG) (d0 mi : Nat) (Rf : Nat → Prop) (ja : Nat → Nat → Nat) (M : MS) (E : ES) (o : Int32) (k : Int32) (hno : lnB M o k = false) (hl9 : l.stackTraces = false) : vx_Met l yX8_findLine (wB yX8_findLine cX8_findLine 4 (some (.object "ShelfSwarm$Line"))) (rmL 5 1 6) (va_Pc [.ref (ja 8 0), .int o, .int k] (jT G d0 mi Rf ja M E)) xQ (xN xIOE) 1 6 (jA Rf) := by
  refine st_X (own := RX8) (by decide +kernel) rfl (Nat.le_of_ble_eq_true rfl) ?_
  intro p e s m below meth c ls args Q hQ hC hr hlk hex hl hP
  obtain ⟨⟨hW, hX, hRf⟩, hT9⟩ := hP
  have hK := hX.1
  have hx := hC.1
  have hb := hC.2.1
  have hl : lv_has ls 4 [(0, .ref (ja 8 0)), (1, .int o), (2, .int k)] := hl
  have hS : va_S (jA Rf) s.heap s.heap [] := va_S.rf
  have hO := hW.cnt.O10
  refine lv_aload_n hx hb dX8_findLine_0 rfl (lv_at hl 0 rfl) ?_
  refine lv_iload_n hx hb dX8_findLine_1 rfl (lv_at hl 1 rfl) ?_
  by_cases ho : inB o (nI (nO M)) = true
  · obtain ⟨jo, hjo, rfl⟩ := inB_of (by omega) ho
    have hL := hW.cnt.L3 (o := jo) (by omega)
    have hno2 : inB k (nI (nL M jo)) = false := by unfold lnB at hno; rw [ho, Bool.true_and, ix_nI (by omega)] at hno; exact hno
    refine cl_p (run_V hC (cJ_X8_findOrder l G d0 mi Rf ja M E jo (by omega)) (As := [.int (nI jo)]) (rest := []) rfl rfl ml_X8_136 im_X8_findOrder se_X8_findOrder ini_X8 cd_X8_findOrder ⟨rfl, na_X8_findOrder⟩ jB_blind (hW.recv hK (show jV M 8 0 from rfl) rfl) (jB_at hX hRf hW hS) hl.1 (Nat.le_of_ble_eq_true rfl) ⟨Nat.le_of_ble_eq_true rfl, Nat.le_of_ble_eq_true rfl⟩ ⟨by show 0 + 0 ≤ 1; omega, by show 0 + 0 ≤ 6; omega⟩ rfl dX8_findLine_2) ?_
    refine r1_get hC hK.1 (hW.ob (show jV M 3 jo from hjo)) lay_X3 rfl 1 (by decide) fl_X8_140 (fun x hx => hx) (v := .ref (ja 10 (7 + jo))) rfl dX8_findLine_5 ?_
    refine lv_astore_n (lv' := [(3, .ref (ja 10 (7 + jo))), (0, .ref (ja 8 0)), (1, .int (nI jo)), (2, .int k)]) hx hb dX8_findLine_8 rfl hl (by decide) rfl (fun ls hl => ?_)
    refine lv_iload_n hx hb dX8_findLine_9 rfl (lv_at hl 3 rfl) ?_
    refine lv_aload_n hx hb dX8_findLine_10 rfl (lv_at hl 0 rfl) ?_
    refine jw_size hC hK hW.1 (i := (7 + jo)) (by unfold jLV; omega) ml_X8_81 hl.1 (Nat.le_of_ble_eq_true rfl) ⟨Nat.le_of_ble_eq_true rfl, Nat.le_of_ble_eq_true rfl, (by show 0 ≤ 1; omega), (by show 0 ≤ 6; omega)⟩ dX8_findLine_11 ?_
    refine top_i (y := nI (nL M jo)) (congrArg nI (jn_7 (by have := hW.cnt.O10; omega))) ?_
    exact jx_call (run_SX hC (cJ_X8_requireNumberX l G d0 mi Rf ja M E k (nL M jo) hno2 (by omega) hl9) (As := [.int k, .int (nI (nL M jo))]) (rest := []) rfl rfl ml_X8_297 sm_X8_requireNumber ini_X8 cd_X8_requireNumber na_X8_requireNumber jT_blind (jT_at hX hT9 hRf hW hS) hl.1 (Nat.le_of_ble_eq_true rfl) ⟨Nat.le_of_ble_eq_true rfl, Nat.le_of_ble_eq_true rfl⟩ ⟨Nat.le_refl _, Nat.le_refl _⟩ rfl dX8_findLine_14) hQ hex hlk
  · have hno3 : inB o (nI (nO M)) = false := by simpa using ho
    exact jx_call (run_VX hC (cJ_X8_findOrderX l G d0 mi Rf ja M E o hno3 hl9) (As := [.int o]) (rest := []) rfl rfl ml_X8_136 im_X8_findOrder se_X8_findOrder ini_X8 cd_X8_findOrder ⟨rfl, na_X8_findOrder⟩ jT_blind (hW.recv hK (show jV M 8 0 from rfl) rfl) (jT_at hX hT9 hRf hW hS) hl.1 (Nat.le_of_ble_eq_true rfl) ⟨Nat.le_of_ble_eq_true rfl, Nat.le_of_ble_eq_true rfl⟩ ⟨Nat.le_refl _, Nat.le_refl _⟩ rfl dX8_findLine_2) hQ hex hlk
