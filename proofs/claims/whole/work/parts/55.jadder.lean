/-! TRAYS, ROBOTS, STATIONS, ORDERS AND LINES ARE ADDED -/
section JRN
variable {p : Program} {l : Launch} {e : Env} {R : Room} {s : State} {m : MethodId} {args : Array Value} {below : List Frame} {meth : Method} {c : Code} {H Hb : Heap} {locs : List Loc} {cells slots : Nat} {Q : State → Prop}
variable {cc : ByteArray} {pc nL index : Nat} {ls : Array Slot} {rest : List Value} {own : String}
variable {G : gG} {d0 mi : Nat} {Rf : Nat → Prop} {ja : Nat → Nat → Nat} {M : MS} {E : ES}
theorem jr_new1 (hC : CallFix p m c cc nL s args BIG own) (hX : gX G d0 mi (jA Rf) s) (hRf : ∀ q, Rf q → q < s.heap.size) (hW : WJ G d0 Rf ja M E Hb) {κ n L0 q : Nat} {fs : List Value} (hκ : κ < 10) (hjo : jo κ) (hq : q = Hb.size) (hnR : ¬ Rf q) (hat : va_at G.1 gCl (q, .inr (κ, fs)) H) (hb9 : ∀ z : Nat, z < Hb.size → H[z]? = Hb[z]?) (hS : va_S (jA Rf) s.heap H locs) (hVo : ¬ jV M κ n) (hL0 : jLV M L0) (h3 : L0 ≠ 3) (hn30 : jn M E L0 ≤ 30) (w1 : Cond.methodLink own index yJx4a65c_add_9ea2d ∈ BIG) (hsz : ls.size = nL) (hWr : (rest.map fun v => v.category).sum ≤ 8) (hR : 19 ≤ R.frames ∧ 561 ≤ R.locals) (hf : cells + 1 ≤ R.cells ∧ slots + 67 ≤ R.slots) (hdg : decode cc pc = .ok (.invokevirtual index, 3))
    (kk : ∀ (r : Int32) (H1 : Heap) (locs1 : List Loc), WR G d0 Rf (fun k' i' => if k' = κ ∧ i' = n then q else ja k' i') (fun k' i' => jV M k' i' ∨ (k' = κ ∧ i' = n)) (fun k' i' => if k' = κ ∧ i' = n then fs else jF ja M E k' i') (jLV M) (fun i' => if i' = L0 then (jn M E L0) + 1 else jn M E i') (fun i' => if i' = L0 then capN (eC E L0) (jn M E L0) else eC E i') (fun i' j => if i' = L0 then fup (jc ja E L0) (jn M E L0) q j else jc ja E i' j) H1 → va_S (jA Rf) s.heap H1 locs1 → W p l e R s m args below meth c H1 locs1 (cells + 1) (slots + 67) Q (F0 m (pc + 3) ls (.int r :: rest))) : W p l e R s m args below meth c H locs cells slots Q (F0 m pc ls (.ref q :: .ref (ja 10 L0) :: rest)) := by
  have hRn := WR.new hW.1 (k := κ) (i := n) hκ hq hnR hat hb9 hVo
  have hcap := hW.cap hL0
  have hc45 : eC E L0 ≤ 45 := by have k9 := hcap.2; rw [if_neg h3] at k9; exact k9
  have h1 := addC_le (cp := (eC E L0)) (n := (jn M E L0))
  have h2 : addS (eC E L0) (jn M E L0) ≤ 67 := addS_le hc45 hn30
  have hgo : W p l e R s m args below meth c H locs cells slots Q (F0 m pc ls (.ref q :: .ref (if 10 = κ ∧ L0 = n then q else ja 10 L0) :: rest)) := by
    refine jw_add hC hX hRf hRn (fun k9 q9 h => h.elim (fun h => jV_lt h) (fun h => by omega)) hS (i := L0) (x := q) hL0 (fun j hj => ?_) ⟨κ, n, hjo, Or.inr ⟨rfl, rfl⟩, (if_pos ⟨rfl, rfl⟩).symm⟩ ?_ w1 hsz hWr hR ⟨by show cells + addC (eC E L0) (jn M E L0) ≤ _; omega, by show slots + addS (eC E L0) (jn M E L0) ≤ _; omega⟩ hdg (fun r H1 locs1 w hS1 _ => W.widen (k := cells + 1) (n := slots + 67) (by show cells + addC (eC E L0) (jn M E L0) ≤ _; omega) (by show slots + addS (eC E L0) (jn M E L0) ≤ _; omega) (kk r H1 locs1 w hS1))
    · have hj : j < jn M E L0 := hj
      obtain ⟨k9, q9, a9, b9, c9⟩ := hW.elv hL0 j hj
      have hk9 := jV_lt b9
      refine ⟨k9, q9, a9, Or.inl b9, ?_⟩
      rw [c9]
      have hn9 : ¬ (k9 = κ ∧ q9 = n) := fun z => hVo (by rw [← z.1, ← z.2]; exact b9)
      exact (if_neg hn9).symm
    · have k9 := hcap.le
      exact hcap.1.elim (fun h => Or.inl h) (fun h => Or.inr ⟨h.1, h.2, k9⟩)
  rw [if_neg (show ¬ (10 = κ ∧ L0 = n) by omega)] at hgo
  exact hgo
theorem jr_new2 (hC : CallFix p m c cc nL s args BIG own) (hX : gX G d0 mi (jA Rf) s) (hRf : ∀ q, Rf q → q < s.heap.size) (hW : WJ G d0 Rf ja M E Hb) {κ n L0 q il ql : Nat} {fs : List Value} (hκ : κ < 10) (hjo : jo κ) (hq : q = Hb.size) (hnR : ¬ Rf q) (hql : q < ql) (hnRl : ¬ Rf ql) {md0 : Int32} (hal : LO G ql d0 0 md0 H) (hnl : ¬ jLV M il) (hat : va_at G.1 gCl (q, .inr (κ, fs)) H) (hb9 : ∀ z : Nat, z < Hb.size → H[z]? = Hb[z]?) (hS : va_S (jA Rf) s.heap H locs) (hVo : ¬ jV M κ n) (hL0 : jLV M L0) (h3 : L0 ≠ 3) (hn30 : jn M E L0 ≤ 30) (w1 : Cond.methodLink own index yJx4a65c_add_9ea2d ∈ BIG) (hsz : ls.size = nL) (hWr : (rest.map fun v => v.category).sum ≤ 8) (hR : 19 ≤ R.frames ∧ 561 ≤ R.locals) (hf : cells + 1 ≤ R.cells ∧ slots + 67 ≤ R.slots) (hdg : decode cc pc = .ok (.invokevirtual index, 3))
    (kk : ∀ (r : Int32) (H1 : Heap) (locs1 : List Loc), WR G d0 Rf (fun k' i' => if k' = κ ∧ i' = n then q else if k' = 10 ∧ i' = il then ql else ja k' i') (fun k' i' => jV M k' i' ∨ (k' = κ ∧ i' = n)) (fun k' i' => if k' = κ ∧ i' = n then fs else jF ja M E k' i') (fun i' => jLV M i' ∨ i' = il) (fun i' => if i' = L0 then (if L0 = il then 0 else jn M E L0) + 1 else if i' = il then 0 else jn M E i') (fun i' => if i' = L0 then capN (if L0 = il then 0 else eC E L0) (if L0 = il then 0 else jn M E L0) else if i' = il then 0 else eC E i') (fun i' j => if i' = L0 then fup (jc ja E L0) (if L0 = il then 0 else jn M E L0) q j else jc ja E i' j) H1 → va_S (jA Rf) s.heap H1 locs1 → W p l e R s m args below meth c H1 locs1 (cells + 1) (slots + 67) Q (F0 m (pc + 3) ls (.int r :: rest))) : W p l e R s m args below meth c H locs cells slots Q (F0 m pc ls (.ref q :: .ref (ja 10 L0) :: rest)) := by
  have hRn := WR.new2 hW.1 (k := κ) (i := n) (il := il) (fun k i h => jV_lt h) hκ hq hql hnR hnRl hat hal hb9 hVo hnl
  have hLl : ¬ L0 = il := fun z => hnl (by rw [← z]; exact hL0)
  have hcap := hW.cap hL0
  have hc45 : eC E L0 ≤ 45 := by have k9 := hcap.2; rw [if_neg h3] at k9; exact k9
  have h1 := addC_le (cp := (if L0 = il then 0 else eC E L0)) (n := (if L0 = il then 0 else jn M E L0))
  have h2 : addS (if L0 = il then 0 else eC E L0) (if L0 = il then 0 else jn M E L0) ≤ 67 := by rw [if_neg hLl, if_neg hLl]; exact addS_le hc45 hn30
  have hgo : W p l e R s m args below meth c H locs cells slots Q (F0 m pc ls (.ref q :: .ref (if 10 = κ ∧ L0 = n then q else if 10 = 10 ∧ L0 = il then ql else ja 10 L0) :: rest)) := by
    refine jw_add hC hX hRf hRn (fun k9 q9 h => h.elim (fun h => jV_lt h) (fun h => by omega)) hS (i := L0) (x := q) (Or.inl hL0) (fun j hj => ?_) ⟨κ, n, hjo, Or.inr ⟨rfl, rfl⟩, (if_pos ⟨rfl, rfl⟩).symm⟩ ?_ w1 hsz hWr hR ⟨by show cells + addC (if L0 = il then 0 else eC E L0) (if L0 = il then 0 else jn M E L0) ≤ _; omega, by show slots + addS (if L0 = il then 0 else eC E L0) (if L0 = il then 0 else jn M E L0) ≤ _; omega⟩ hdg (fun r H1 locs1 w hS1 _ => W.widen (k := cells + 1) (n := slots + 67) (by show cells + addC (if L0 = il then 0 else eC E L0) (if L0 = il then 0 else jn M E L0) ≤ _; omega) (by show slots + addS (if L0 = il then 0 else eC E L0) (if L0 = il then 0 else jn M E L0) ≤ _; omega) (kk r H1 locs1 w hS1))
    · have hj : j < jn M E L0 := by rw [if_neg hLl] at hj; exact hj
      obtain ⟨k9, q9, a9, b9, c9⟩ := hW.elv hL0 j hj
      have hk9 := jV_lt b9
      refine ⟨k9, q9, a9, Or.inl b9, ?_⟩
      rw [c9]
      have hn9 : ¬ (k9 = κ ∧ q9 = n) := fun z => hVo (by rw [← z.1, ← z.2]; exact b9)
      have hk10 : ¬ (k9 = 10 ∧ q9 = il) := fun z => by unfold jo at a9; omega
      exact ((if_neg hn9).trans (if_neg hk10)).symm
    · have k9 := hcap.le
      rw [if_neg hLl, if_neg hLl]
      exact hcap.1.elim (fun h => Or.inl h) (fun h => Or.inr ⟨h.1, h.2, k9⟩)
  rw [if_neg (show ¬ (10 = κ ∧ L0 = n) by omega), if_neg (show ¬ (10 = 10 ∧ L0 = il) from fun z => hLl z.2)] at hgo
  exact hgo
end JRN
theorem df_X7 : ∀ j, j < 5 → defaultValue (tyX7 j) = vp_V [.int 0, .int 0, .int 0, .int 0, .int 0] j := fun j hj => by
  match j, hj with
  | 0, _ => rfl
  | 1, _ => rfl
  | 2, _ => rfl
  | 3, _ => rfl
  | 4, _ => rfl
  | _ + 5, hj => omega
theorem df_X5 : ∀ j, j < 9 → defaultValue (tyX5 j) = vp_V [.int 0, .int 0, .int 0, .int 0, .null, .null, .int 0, .int 0, .int 0] j := fun j hj => by
  match j, hj with
  | 0, _ => rfl
  | 1, _ => rfl
  | 2, _ => rfl
  | 3, _ => rfl
  | 4, _ => rfl
  | 5, _ => rfl
  | 6, _ => rfl
  | 7, _ => rfl
  | 8, _ => rfl
  | _ + 9, hj => omega
theorem df_X6 : ∀ j, j < 3 → defaultValue (tyX6 j) = vp_V [.int 0, .int 0, .null] j := fun j hj => by
  match j, hj with
  | 0, _ => rfl
  | 1, _ => rfl
  | 2, _ => rfl
  | _ + 3, hj => omega
theorem df_X3 : ∀ j, j < 2 → defaultValue (tyX3 j) = vp_V [.int 0, .null] j := fun j hj => by
  match j, hj with
  | 0, _ => rfl
  | 1, _ => rfl
  | _ + 2, hj => omega
theorem df_X2 : ∀ j, j < 4 → defaultValue (tyX2 j) = vp_V [.null, .int 0, .int 0, .null] j := fun j hj => by
  match j, hj with
  | 0, _ => rfl
  | 1, _ => rfl
  | 2, _ => rfl
  | 3, _ => rfl
  | _ + 4, hj => omega
theorem tr_n {M : MS} {h g a : Int32} (hT : nT M < 2147483647) : nT (trD M h g a) = nT M + 1 := by show (upd (M 6) 0 (nI (nT M + 1)) 0).toNatClampNeg = _; rw [upd_s, nI_clamp (by omega)]
theorem rb_n {M : MS} {c k : Int32} (hT : nR M < 2147483647) : nR (rbD M c k) = nR M + 1 := by show (upd (M 17) 0 (nI (nR M + 1)) 0).toNatClampNeg = _; rw [upd_s, nI_clamp (by omega)]
theorem st_n {M : MS} {c : Int32} (hT : nS M < 2147483647) : nS (stD M c) = nS M + 1 := by show (upd (M 4) 0 (nI (nS M + 1)) 0).toNatClampNeg = _; rw [upd_s, nI_clamp (by omega)]
theorem or_n {M : MS} (hT : nO M < 2147483647) : nO (orD M) = nO M + 1 := by show (upd (M 10) 0 (nI (nO M + 1)) 0).toNatClampNeg = _; rw [upd_s, nI_clamp (by omega)]
theorem li_n {M : MS} {o : Nat} {g a : Int32} (hT : nL M o < 2147483647) : nL (liD M o g a) o = nL M o + 1 := by show (upd (M 11) o (nI (nL M o + 1)) o).toNatClampNeg = _; rw [upd_s, nI_clamp (by omega)]
set_option maxHeartbeats 4000000 in
set_option maxRecDepth 100000 in
theorem cJ_X8_addTray (l : Launch) (G : gG) (d0 mi : Nat) (Rf : Nat → Prop) (ja : Nat → Nat → Nat) (M : MS) (E : ES) (h : Nat) (g : Nat) (a : Nat) (hh : h < 64) (hg : g < 6) (ha : a ≤ 100) (t2 : M 2 h = 0) (t3 : hmA M (nI h) = none) (t4 : nT M < 16) : Met l yX8_addTray (wB yX8_addTray cX8_addTray 5 (some .int)) (rmL 9 2 72) (va_Pc [.ref (ja 8 0), .int (nI h), .int (nI g), .int (nI a)] (jB G d0 mi Rf ja M E)) (va_Qi (S := JE) (fun v9 u9 => v9 = nI (nT M) ∧ u9.1 8 0 = ja 8 0 ∧ u9.2 = (trE M E (nI a))) (fun u9 z9 => WJ G d0 Rf u9.1 ((trD M (nI h) (nI g) (nI a))) u9.2 z9.heap) (jA Rf)) 2 72 (jA Rf) := by
  refine st_N (own := RX8) (by decide +kernel) rfl (Nat.le_of_ble_eq_true rfl) ?_
  intro p e s m below meth c ls args Q hQ hC hr hlk hnm hl hP
  obtain ⟨hW, hX, hRf⟩ := hP
  have hK := hX.1
  have hx := hC.1
  have hb := hC.2.1
  have hl : lv_has ls 5 [(0, .ref (ja 8 0)), (1, .int (nI h)), (2, .int (nI g)), (3, .int (nI a))] := hl
  obtain ⟨H, locs, hHe, hLe⟩ : ∃ (H : Heap) (locs : List Loc), H = s.heap ∧ locs = [] := ⟨_, _, rfl, rfl⟩
  rw [← hHe] at hW
  have hS : va_S (jA Rf) s.heap H locs := by rw [hHe, hLe]; exact va_S.rf
  suffices hgo : W p l e (rmL 9 2 72) s m args below meth c H locs 0 0 Q (F0 m 0 ls []) by
    rw [hHe, hLe] at hgo
    exact hgo
  clear hHe hLe
  have h16 := hW.cnt.T16
  refine lv_iload_n hx hb dX8_addTray_0 rfl (lv_at hl 1 rfl) ?_
  refine cl_pv (run_S hC (cJ_X8_requireCell l h (by omega)) (As := [.int (nI h)]) (rest := []) rfl rfl ml_X8_36 sm_X8_requireCell ini_X8 cd_X8_requireCell na_X8_requireCell tB_blind (fun _ _ _ => trivial) hl.1 (Nat.le_of_ble_eq_true rfl) ⟨Nat.le_of_ble_eq_true rfl, Nat.le_of_ble_eq_true rfl⟩ ⟨by show 0 + 0 ≤ 2; omega, by show 0 + 0 ≤ 72; omega⟩ rfl dX8_addTray_1) ?_
  refine lv_iload_n hx hb dX8_addTray_4 rfl (lv_at hl 2 rfl) ?_
  refine cl_pv (run_S hC (cJ_X8_requireGood l g (by omega)) (As := [.int (nI g)]) (rest := []) rfl rfl ml_X8_99 sm_X8_requireGood ini_X8 cd_X8_requireGood na_X8_requireGood tB_blind (fun _ _ _ => trivial) hl.1 (Nat.le_of_ble_eq_true rfl) ⟨Nat.le_of_ble_eq_true rfl, Nat.le_of_ble_eq_true rfl⟩ ⟨by show 0 + 0 ≤ 2; omega, by show 0 + 0 ≤ 72; omega⟩ rfl dX8_addTray_5) ?_
  refine lv_iload_n hx hb dX8_addTray_8 rfl (lv_at hl 3 rfl) ?_
  refine lv_iconst (v := 0) hx hb dX8_addTray_9 (by decide) ?_
  refine lv_bipush (v := 100) hx hb dX8_addTray_10 (by decide) ?_
  refine cl_pv (run_S hC (cJ_X8_requireRange l (nI a) 0 100 ((nI_rg (j := a) (n := 100) (by omega) (by decide)).1) ((nI_rg (j := a) (n := 100) (by omega) (by decide)).2)) (As := [.int (nI a), .int 0, .int 100]) (rest := []) rfl rfl ml_X8_102 sm_X8_requireRange ini_X8 cd_X8_requireRange na_X8_requireRange tB_blind (fun _ _ _ => trivial) hl.1 (Nat.le_of_ble_eq_true rfl) ⟨Nat.le_of_ble_eq_true rfl, Nat.le_of_ble_eq_true rfl⟩ ⟨by show 0 + 0 ≤ 2; omega, by show 0 + 0 ≤ 72; omega⟩ rfl dX8_addTray_12) ?_
  refine lv_aload_n hx hb dX8_addTray_15 rfl (lv_at hl 0 rfl) ?_
  refine r1_get hC hK.1 (hW.ob (show jV M 8 0 from rfl)) lay_X8 rfl 0 (by decide) fl_X8_10 (fun x hx => hx) (v := .ref (ja 0 0)) rfl dX8_addTray_16 ?_
  refine r1_get hC hK.1 (hW.ob (show jV M 0 0 from rfl)) lay_X0 rfl 0 (by decide) fl_X8_40 (fun x hx => hx) (v := .ref (ja 1 0)) rfl dX8_addTray_19 ?_
  refine lv_iload_n hx hb dX8_addTray_22 rfl (lv_at hl 1 rfl) ?_
  refine cl_p (run_V hC (cJ_X1_isWall l G d0 mi Rf ja M E h (by omega)) (As := [.int (nI h)]) (rest := []) rfl rfl ml_X8_44 im_X1_isWall se_X1_isWall ini_X1 cd_X1_isWall ⟨rfl, na_X1_isWall⟩ jB_blind (hW.recv hK (show jV M 1 0 from rfl) rfl) (jB_at hX hRf hW hS) hl.1 (Nat.le_of_ble_eq_true rfl) ⟨Nat.le_of_ble_eq_true rfl, Nat.le_of_ble_eq_true rfl⟩ ⟨by show 0 + 0 ≤ 2; omega, by show 0 + 0 ≤ 72; omega⟩ rfl dX8_addTray_23) ?_
  refine lb_ne (tgt := 49) (b := (decide (¬ M 2 h = 0))) hx hb dX8_addTray_26 (by decide) (fun c_1t => ?_) (fun c_1f => ?_)
  · first | (simp [t2, t3] at c_1t; done) | omega
  · refine lv_aload_n hx hb dX8_addTray_29 rfl (lv_at hl 0 rfl) ?_
    refine lv_iload_n hx hb dX8_addTray_30 rfl (lv_at hl 1 rfl) ?_
    refine cl_p (run_V hC (cJ_X8_isHome l G d0 mi Rf ja M E (nI h)) (As := [.int (nI h)]) (rest := []) rfl rfl ml_X8_50 im_X8_isHome se_X8_isHome ini_X8 cd_X8_isHome ⟨rfl, na_X8_isHome⟩ jB_blind (hW.recv hK (show jV M 8 0 from rfl) rfl) (jB_at hX hRf hW hS) hl.1 (Nat.le_of_ble_eq_true rfl) ⟨Nat.le_of_ble_eq_true rfl, Nat.le_of_ble_eq_true rfl⟩ ⟨by show 0 + 0 ≤ 2; omega, by show 0 + 0 ≤ 72; omega⟩ rfl dX8_addTray_31) ?_
    refine lb_ne (tgt := 49) (b := ((hmA M (nI h)).isSome)) hx hb dX8_addTray_34 (by decide) (fun c_2t => ?_) (fun c_2f => ?_)
    · first | (simp [t2, t3] at c_2t; done) | omega
    · refine lv_aload_n hx hb dX8_addTray_37 rfl (lv_at hl 0 rfl) ?_
      refine r1_get hC hK.1 (hW.ob (show jV M 8 0 from rfl)) lay_X8 rfl 2 (by decide) fl_X8_23 (fun x hx => hx) (v := .ref (ja 10 1)) rfl dX8_addTray_38 ?_
      refine jw_size hC hK hW.1 (i := 1) (Or.inl (by decide)) ml_X8_81 hl.1 (Nat.le_of_ble_eq_true rfl) ⟨Nat.le_of_ble_eq_true rfl, Nat.le_of_ble_eq_true rfl, (by show 0 ≤ 2; omega), (by show 0 ≤ 72; omega)⟩ dX8_addTray_41 ?_
      refine top_i (y := nI (nT M)) rfl ?_
      refine lv_bipush (v := 16) hx hb dX8_addTray_44 (by decide) ?_
      refine ln_lt (tgt := 59) (a := (nT M)) (b := 16) hx hb dX8_addTray_46 (by decide) rfl rfl (by omega) (by omega) (fun c_3t => ?_) (fun c_3f => ?_)
      · have hsz0_ := hS.1
        refine r2_new hC hK hS lay_X7 tyX7 tyX7_ok cl_X8_108 is_X7 ini_X7 (ci := 7) rfl (fs := [.int 0, .int 0, .int 0, .int 0, .int 0]) df_X7 (by show 0 + 1 ≤ 2; omega) (by show 0 + 5 ≤ 72; omega) dX8_addTray_59 (fun q H1 hq hat hz1_ hb9 hS => ?_)
        have hnq : ∀ z : Nat, H.size ≤ z → jA Rf z := fun z hz hr9 => by have := hRf z hr9; omega
        have hWb := hW
        have hW := hWb.kept (H1 := H1) (fun z hz _ => hb9 z hz)
        refine lv_dup hx hb dX8_addTray_62 rfl ?_
        refine lv_aload_n hx hb dX8_addTray_63 rfl (lv_at hl 0 rfl) ?_
        refine r1_get hC hK.1 (hW.ob (show jV M 8 0 from rfl)) lay_X8 rfl 2 (by decide) fl_X8_23 (fun x hx => hx) (v := .ref (ja 10 1)) rfl dX8_addTray_64 ?_
        refine jw_size hC hK hW.1 (i := 1) (Or.inl (by decide)) ml_X8_81 hl.1 (Nat.le_of_ble_eq_true rfl) ⟨Nat.le_of_ble_eq_true rfl, Nat.le_of_ble_eq_true rfl, (by show 0 + 1 ≤ 2; omega), (by show 0 + 5 ≤ 72; omega)⟩ dX8_addTray_67 ?_
        refine top_i (y := nI (nT M)) rfl ?_
        refine lv_iload_n hx hb dX8_addTray_70 rfl (lv_at hl 1 rfl) ?_
        refine lv_iload_n hx hb dX8_addTray_71 rfl (lv_at hl 2 rfl) ?_
        have hA9 : ∀ z, rvA q H1.size z → jA Rf z := fun z h => hnq z (h.elim (fun e9 => by omega) (fun e9 => by omega))
        refine va_callv (run_I hC (cJ_X7_init l G q H1.size (nI (nT M)) (nI h) (nI g)) (As := [.int (nI (nT M)), .int (nI h), .int (nI g)]) (rest := [.ref q]) rfl rfl ml_X8_110 im_X7_init ini_X7 cd_X7_init rfl na_X7_init vB_blind (fun U hU hW => ⟨by rw [hU], by rw [hU]; exact hat, hK.warm hW⟩) hl.1 (Nat.le_of_ble_eq_true rfl) ⟨Nat.le_of_ble_eq_true rfl, Nat.le_of_ble_eq_true rfl⟩ ⟨by show 0 + 1 + 0 ≤ 2; omega, by show 0 + 5 + 0 ≤ 72; omega⟩ rfl dX8_addTray_72) hS (fun z _ h => hA9 z h) hA9 (fun _ tt H2 locs2 ht_ al_ _ hB_ hz2_ oq_ hS => ?_)
        rw [ht_] at hB_
        have hb9 : ∀ z : Nat, z < H.size → H2[z]? = H[z]? := fun z hz => (oq_ z (by omega) (fun h => h.elim (fun e9 => by omega) (fun e9 => by omega))).trans (hb9 z hz)
        have hW := hWb.kept (H1 := H2) (fun z hz _ => hb9 z hz)
        refine lv_astore (lv' := [(4, .ref q), (0, .ref (ja 8 0)), (1, .int (nI h)), (2, .int (nI g)), (3, .int (nI a))]) hx hb dX8_addTray_75 hl (by decide) rfl (fun ls hl => ?_)
        refine lv_aload hx hb dX8_addTray_77 (lv_at hl 0 rfl) ?_
        refine lv_iload_n hx hb dX8_addTray_79 rfl (lv_at hl 4 rfl) ?_
        refine va_callv (run_V hC (cJ_X7_put l G q (nI (nT M)) (nI h) (nI g) 0 0 (nI a)) (As := [.int (nI a)]) (rest := []) rfl rfl ml_X8_112 im_X7_put se_X7_put ini_X7 cd_X7_put ⟨rfl, na_X7_put⟩ oB_blind (ls_recv hK hB_ rfl) (fun U hU hW => ⟨by rw [hU]; exact hB_, hK.warm hW⟩) hl.1 (Nat.le_of_ble_eq_true rfl) ⟨Nat.le_of_ble_eq_true rfl, Nat.le_of_ble_eq_true rfl⟩ ⟨by show 0 + 1 + 0 ≤ 2; omega, by show 0 + 5 + 0 ≤ 72; omega⟩ rfl dX8_addTray_80) hS (fun z _ h => by have h9 : z = q := h; rw [h9]; exact hnq q (by omega)) (fun z h => by have h9 : z = q := h; rw [h9]; exact hnq q (by omega)) (fun _ tt3 H3 locs3 ht3_ al3_ _ hB_ hz3_ oq3_ hS => ?_)
        rw [ht3_, Int32.zero_add] at hB_
        have hb9 : ∀ z : Nat, z < H.size → H3[z]? = H[z]? := fun z hz => (oq3_ z (by omega) (fun h => by have h9 : z = q := h; omega)).trans (hb9 z hz)
        have hW := hWb.kept (H1 := H3) (fun z hz _ => hb9 z hz)
        refine lv_aload_n hx hb dX8_addTray_83 rfl (lv_at hl 1 rfl) ?_
        refine r1_get hC hK.1 (hW.ob (show jV M 8 0 from rfl)) lay_X8 rfl 2 (by decide) fl_X8_23 (fun x hx => hx) (v := .ref (ja 10 1)) rfl dX8_addTray_84 ?_
        refine lv_aload hx hb dX8_addTray_87 (lv_at hl 0 rfl) ?_
        have hVo9 : ¬ jV M 7 (nT M) := fun h => Nat.lt_irrefl _ (show nT M < nT M from h)
        refine jr_new1 hC hX hRf hWb (κ := 7) (n := nT M) (L0 := 1) (by decide) (by unfold jo; omega) hq (hnq q (by omega)) hB_ hb9 hS hVo9 (Or.inl (by decide)) (by omega) (show nT M ≤ 30 by omega) ml_X8_92 hl.1 (Nat.le_of_ble_eq_true rfl) ⟨Nat.le_of_ble_eq_true rfl, Nat.le_of_ble_eq_true rfl⟩ ⟨by show 0 + 1 + 1 ≤ 2; omega, by show 0 + 5 + 67 ≤ 72; omega⟩ dX8_addTray_89 (fun rz_ H locs w hS => ?_)
        have hW := WJ.addtr (nI h) (nI g) (nI a) hWb t4 w
        obtain ⟨ja9, hja9⟩ : ∃ z, z = (fun k' i' => if k' = 7 ∧ i' = nT M then q else ja k' i') := ⟨_, rfl⟩
        have hW : WJ G d0 Rf ja9 (trD M (nI h) (nI g) (nI a)) (trE M E (nI a)) H := by rw [hja9]; exact hW
        have hqn9 : ja9 7 (nT M) = q := by rw [hja9]; exact if_pos ⟨rfl, rfl⟩
        have h9_0 : ja9 8 0 = ja 8 0 := by rw [hja9]; exact if_neg (fun z => absurd z.1 (by decide))
        have hl : lv_has ls 5 [(4, .ref (ja9 7 (nT M))), (0, .ref (ja9 8 0)), (1, .int (nI h)), (2, .int (nI g)), (3, .int (nI a))] := by rw [hqn9, h9_0]; exact hl
        have h880 : ja9 8 0 = ja 8 0 := h9_0
        clear w hB_ hb9 hWb
        clear hja9 hqn9 h9_0
        obtain ⟨jaO, hjaO⟩ : ∃ z, z = ja := ⟨_, rfl⟩
        rw [← hjaO] at h880
        obtain ⟨ja, hja⟩ : ∃ z, z = ja9 := ⟨_, rfl⟩
        rw [← hja] at hl hW h880
        refine lv_pop hx hb dX8_addTray_92 rfl ?_
        refine lv_aload hx hb dX8_addTray_93 (lv_at hl 0 rfl) ?_
        refine r1_get hC hK.1 (hW.ob (show jV (trD M (nI h) (nI g) (nI a)) 7 (nT M) from (by show nT M < nT (trD M (nI h) (nI g) (nI a)); have k9 : nT (trD M (nI h) (nI g) (nI a)) = nT M + 1 := tr_n (by omega); omega))) lay_X7 rfl 0 (by decide) fl_X8_115 (fun x hx => hx) (v := .int (nI (nT M))) rfl dX8_addTray_95 ?_
        subst hQ
        exact rt_qi (ja, (trE M E (nI a))) hx hb hr hlk hS ⟨rfl, by rw [← hjaO]; exact h880, rfl⟩ (fun t9 ht9 _ => by show WJ G d0 Rf _ _ _ t9.heap; rw [ht9]; exact hW) (by show 0 + 1 + 1 ≤ 2; omega) (by show 0 + 5 + 67 ≤ 72; omega) dX8_addTray_98
      · first | (simp [t2, t3] at c_3f; done) | omega
set_option maxHeartbeats 4000000 in
set_option maxRecDepth 100000 in
theorem cJ_X8_addTrayX1 (l : Launch) (G : gG) (d0 mi : Nat) (Rf : Nat → Prop) (ja : Nat → Nat → Nat) (M : MS) (E : ES) (x : Int32) (y : Int32) (z : Int32) (hno : inB x 64 = false) (hl9 : l.stackTraces = false) : vx_Met l yX8_addTray (wB yX8_addTray cX8_addTray 5 (some .int)) (rmL 9 1 6) (va_Pc [.ref (ja 8 0), .int x, .int y, .int z] (jT G d0 mi Rf ja M E)) xQ (xN xIAE) 1 6 (jA Rf) := by
  refine st_X (own := RX8) (by decide +kernel) rfl (Nat.le_of_ble_eq_true rfl) ?_
  intro p e s m below meth c ls args Q hQ hC hr hlk hex hl hP
  obtain ⟨⟨hW, hX, hRf⟩, hT9⟩ := hP
  have hK := hX.1
  have hx := hC.1
  have hb := hC.2.1
  have hl : lv_has ls 5 [(0, .ref (ja 8 0)), (1, .int x), (2, .int y), (3, .int z)] := hl
  have hS : va_S (jA Rf) s.heap s.heap [] := va_S.rf
  refine lv_iload_n hx hb dX8_addTray_0 rfl (lv_at hl 1 rfl) ?_
  exact jx_call (run_SX hC (cJ_X8_requireCellX l G d0 mi Rf ja M E x (by assumption) hl9) (As := [.int x]) (rest := []) rfl rfl ml_X8_36 sm_X8_requireCell ini_X8 cd_X8_requireCell na_X8_requireCell jT_blind (jT_at hX hT9 hRf hW hS) hl.1 (Nat.le_of_ble_eq_true rfl) ⟨Nat.le_of_ble_eq_true rfl, Nat.le_of_ble_eq_true rfl⟩ ⟨Nat.le_refl _, Nat.le_refl _⟩ rfl dX8_addTray_1) hQ hex hlk
set_option maxHeartbeats 4000000 in
set_option maxRecDepth 100000 in
theorem cJ_X8_addTrayX2 (l : Launch) (G : gG) (d0 mi : Nat) (Rf : Nat → Prop) (ja : Nat → Nat → Nat) (M : MS) (E : ES) (h : Nat) (y : Int32) (z : Int32) (hh : h < 64) (hno : inB y 6 = false) (hl9 : l.stackTraces = false) : vx_Met l yX8_addTray (wB yX8_addTray cX8_addTray 5 (some .int)) (rmL 9 1 6) (va_Pc [.ref (ja 8 0), .int (nI h), .int y, .int z] (jT G d0 mi Rf ja M E)) xQ (xN xIAE) 1 6 (jA Rf) := by
  refine st_X (own := RX8) (by decide +kernel) rfl (Nat.le_of_ble_eq_true rfl) ?_
  intro p e s m below meth c ls args Q hQ hC hr hlk hex hl hP
  obtain ⟨⟨hW, hX, hRf⟩, hT9⟩ := hP
  have hK := hX.1
  have hx := hC.1
  have hb := hC.2.1
  have hl : lv_has ls 5 [(0, .ref (ja 8 0)), (1, .int (nI h)), (2, .int y), (3, .int z)] := hl
  have hS : va_S (jA Rf) s.heap s.heap [] := va_S.rf
  refine lv_iload_n hx hb dX8_addTray_0 rfl (lv_at hl 1 rfl) ?_
  refine cl_pv (run_S hC (cJ_X8_requireCell l h (by omega)) (As := [.int (nI h)]) (rest := []) rfl rfl ml_X8_36 sm_X8_requireCell ini_X8 cd_X8_requireCell na_X8_requireCell tB_blind (fun _ _ _ => trivial) hl.1 (Nat.le_of_ble_eq_true rfl) ⟨Nat.le_of_ble_eq_true rfl, Nat.le_of_ble_eq_true rfl⟩ ⟨by show 0 + 0 ≤ 1; omega, by show 0 + 0 ≤ 6; omega⟩ rfl dX8_addTray_1) ?_
  refine lv_iload_n hx hb dX8_addTray_4 rfl (lv_at hl 2 rfl) ?_
  exact jx_call (run_SX hC (cJ_X8_requireGoodX l G d0 mi Rf ja M E y (by assumption) hl9) (As := [.int y]) (rest := []) rfl rfl ml_X8_99 sm_X8_requireGood ini_X8 cd_X8_requireGood na_X8_requireGood jT_blind (jT_at hX hT9 hRf hW hS) hl.1 (Nat.le_of_ble_eq_true rfl) ⟨Nat.le_of_ble_eq_true rfl, Nat.le_of_ble_eq_true rfl⟩ ⟨Nat.le_refl _, Nat.le_refl _⟩ rfl dX8_addTray_5) hQ hex hlk
set_option maxHeartbeats 4000000 in
set_option maxRecDepth 100000 in
theorem cJ_X8_addTrayX3 (l : Launch) (G : gG) (d0 mi : Nat) (Rf : Nat → Prop) (ja : Nat → Nat → Nat) (M : MS) (E : ES) (h : Nat) (g : Nat) (z : Int32) (hh : h < 64) (hg : g < 6) (hno : inB z 101 = false) (hl9 : l.stackTraces = false) : vx_Met l yX8_addTray (wB yX8_addTray cX8_addTray 5 (some .int)) (rmL 9 1 6) (va_Pc [.ref (ja 8 0), .int (nI h), .int (nI g), .int z] (jT G d0 mi Rf ja M E)) xQ (xN xIAE) 1 6 (jA Rf) := by
  refine st_X (own := RX8) (by decide +kernel) rfl (Nat.le_of_ble_eq_true rfl) ?_
  intro p e s m below meth c ls args Q hQ hC hr hlk hex hl hP
  obtain ⟨⟨hW, hX, hRf⟩, hT9⟩ := hP
  have hK := hX.1
  have hx := hC.1
  have hb := hC.2.1
  have hl : lv_has ls 5 [(0, .ref (ja 8 0)), (1, .int (nI h)), (2, .int (nI g)), (3, .int z)] := hl
  have hS : va_S (jA Rf) s.heap s.heap [] := va_S.rf
  refine lv_iload_n hx hb dX8_addTray_0 rfl (lv_at hl 1 rfl) ?_
  refine cl_pv (run_S hC (cJ_X8_requireCell l h (by omega)) (As := [.int (nI h)]) (rest := []) rfl rfl ml_X8_36 sm_X8_requireCell ini_X8 cd_X8_requireCell na_X8_requireCell tB_blind (fun _ _ _ => trivial) hl.1 (Nat.le_of_ble_eq_true rfl) ⟨Nat.le_of_ble_eq_true rfl, Nat.le_of_ble_eq_true rfl⟩ ⟨by show 0 + 0 ≤ 1; omega, by show 0 + 0 ≤ 6; omega⟩ rfl dX8_addTray_1) ?_
  refine lv_iload_n hx hb dX8_addTray_4 rfl (lv_at hl 2 rfl) ?_
  refine cl_pv (run_S hC (cJ_X8_requireGood l g (by omega)) (As := [.int (nI g)]) (rest := []) rfl rfl ml_X8_99 sm_X8_requireGood ini_X8 cd_X8_requireGood na_X8_requireGood tB_blind (fun _ _ _ => trivial) hl.1 (Nat.le_of_ble_eq_true rfl) ⟨Nat.le_of_ble_eq_true rfl, Nat.le_of_ble_eq_true rfl⟩ ⟨by show 0 + 0 ≤ 1; omega, by show 0 + 0 ≤ 6; omega⟩ rfl dX8_addTray_5) ?_
  refine lv_iload_n hx hb dX8_addTray_8 rfl (lv_at hl 3 rfl) ?_
  refine lv_iconst (v := 0) hx hb dX8_addTray_9 (by decide) ?_
  refine lv_bipush (v := 100) hx hb dX8_addTray_10 (by decide) ?_
  exact jx_call (run_SX hC (cJ_X8_requireRangeX l G d0 mi Rf ja M E z 0 100 (inB_n (n := 100) (by decide) hno) hl9) (As := [.int z, .int 0, .int 100]) (rest := []) rfl rfl ml_X8_102 sm_X8_requireRange ini_X8 cd_X8_requireRange na_X8_requireRange jT_blind (jT_at hX hT9 hRf hW hS) hl.1 (Nat.le_of_ble_eq_true rfl) ⟨Nat.le_of_ble_eq_true rfl, Nat.le_of_ble_eq_true rfl⟩ ⟨Nat.le_refl _, Nat.le_refl _⟩ rfl dX8_addTray_12) hQ hex hlk
set_option maxHeartbeats 4000000 in
set_option maxRecDepth 100000 in
theorem cJ_X8_addTrayX4 (l : Launch) (G : gG) (d0 mi : Nat) (Rf : Nat → Prop) (ja : Nat → Nat → Nat) (M : MS) (E : ES) (h : Nat) (g : Nat) (a : Nat) (hh : h < 64) (hg : g < 6) (ha : a ≤ 100) (hno : ¬ (M 2 h = 0 ∧ hmA M (nI h) = none ∧ nT M < 16)) (hl9 : l.stackTraces = false) : vx_Met l yX8_addTray (wB yX8_addTray cX8_addTray 5 (some .int)) (rmL 9 1 6) (va_Pc [.ref (ja 8 0), .int (nI h), .int (nI g), .int (nI a)] (jT G d0 mi Rf ja M E)) xQ (xN xISE) 1 6 (jA Rf) := by
  refine st_X (own := RX8) (by decide +kernel) rfl (Nat.le_of_ble_eq_true rfl) ?_
  intro p e s m below meth c ls args Q hQ hC hr hlk hex hl hP
  obtain ⟨⟨hW, hX, hRf⟩, hT9⟩ := hP
  have hK := hX.1
  have hx := hC.1
  have hb := hC.2.1
  have hl : lv_has ls 5 [(0, .ref (ja 8 0)), (1, .int (nI h)), (2, .int (nI g)), (3, .int (nI a))] := hl
  have hS : va_S (jA Rf) s.heap s.heap [] := va_S.rf
  have h16 := hW.cnt.T16
  refine lv_iload_n hx hb dX8_addTray_0 rfl (lv_at hl 1 rfl) ?_
  refine cl_pv (run_S hC (cJ_X8_requireCell l h (by omega)) (As := [.int (nI h)]) (rest := []) rfl rfl ml_X8_36 sm_X8_requireCell ini_X8 cd_X8_requireCell na_X8_requireCell tB_blind (fun _ _ _ => trivial) hl.1 (Nat.le_of_ble_eq_true rfl) ⟨Nat.le_of_ble_eq_true rfl, Nat.le_of_ble_eq_true rfl⟩ ⟨by show 0 + 0 ≤ 1; omega, by show 0 + 0 ≤ 6; omega⟩ rfl dX8_addTray_1) ?_
  refine lv_iload_n hx hb dX8_addTray_4 rfl (lv_at hl 2 rfl) ?_
  refine cl_pv (run_S hC (cJ_X8_requireGood l g (by omega)) (As := [.int (nI g)]) (rest := []) rfl rfl ml_X8_99 sm_X8_requireGood ini_X8 cd_X8_requireGood na_X8_requireGood tB_blind (fun _ _ _ => trivial) hl.1 (Nat.le_of_ble_eq_true rfl) ⟨Nat.le_of_ble_eq_true rfl, Nat.le_of_ble_eq_true rfl⟩ ⟨by show 0 + 0 ≤ 1; omega, by show 0 + 0 ≤ 6; omega⟩ rfl dX8_addTray_5) ?_
  refine lv_iload_n hx hb dX8_addTray_8 rfl (lv_at hl 3 rfl) ?_
  refine lv_iconst (v := 0) hx hb dX8_addTray_9 (by decide) ?_
  refine lv_bipush (v := 100) hx hb dX8_addTray_10 (by decide) ?_
  refine cl_pv (run_S hC (cJ_X8_requireRange l (nI a) 0 100 ((nI_rg (j := a) (n := 100) (by omega) (by decide)).1) ((nI_rg (j := a) (n := 100) (by omega) (by decide)).2)) (As := [.int (nI a), .int 0, .int 100]) (rest := []) rfl rfl ml_X8_102 sm_X8_requireRange ini_X8 cd_X8_requireRange na_X8_requireRange tB_blind (fun _ _ _ => trivial) hl.1 (Nat.le_of_ble_eq_true rfl) ⟨Nat.le_of_ble_eq_true rfl, Nat.le_of_ble_eq_true rfl⟩ ⟨by show 0 + 0 ≤ 1; omega, by show 0 + 0 ≤ 6; omega⟩ rfl dX8_addTray_12) ?_
  refine lv_aload_n hx hb dX8_addTray_15 rfl (lv_at hl 0 rfl) ?_
  refine r1_get hC hK.1 (hW.ob (show jV M 8 0 from rfl)) lay_X8 rfl 0 (by decide) fl_X8_10 (fun x hx => hx) (v := .ref (ja 0 0)) rfl dX8_addTray_16 ?_
  refine r1_get hC hK.1 (hW.ob (show jV M 0 0 from rfl)) lay_X0 rfl 0 (by decide) fl_X8_40 (fun x hx => hx) (v := .ref (ja 1 0)) rfl dX8_addTray_19 ?_
  refine lv_iload_n hx hb dX8_addTray_22 rfl (lv_at hl 1 rfl) ?_
  refine cl_p (run_V hC (cJ_X1_isWall l G d0 mi Rf ja M E h (by omega)) (As := [.int (nI h)]) (rest := []) rfl rfl ml_X8_44 im_X1_isWall se_X1_isWall ini_X1 cd_X1_isWall ⟨rfl, na_X1_isWall⟩ jB_blind (hW.recv hK (show jV M 1 0 from rfl) rfl) (jB_at hX hRf hW hS) hl.1 (Nat.le_of_ble_eq_true rfl) ⟨Nat.le_of_ble_eq_true rfl, Nat.le_of_ble_eq_true rfl⟩ ⟨by show 0 + 0 ≤ 1; omega, by show 0 + 0 ≤ 6; omega⟩ rfl dX8_addTray_23) ?_
  refine lb_ne (tgt := 49) (b := (decide (¬ M 2 h = 0))) hx hb dX8_addTray_26 (by decide) (fun c_1t => ?_) (fun c_1f => ?_)
  · exact jx_ISE hC hl9 hT9 hex hlk hl.1 (text := "no tray can be added there") (by decide) ⟨Nat.le_of_ble_eq_true rfl, Nat.le_of_ble_eq_true rfl, Nat.le_refl _, Nat.le_refl _⟩ (by decide) hQ dX8_addTray_49 dX8_addTray_52 dX8_addTray_53 dX8_addTray_55 dX8_addTray_58
  · refine lv_aload_n hx hb dX8_addTray_29 rfl (lv_at hl 0 rfl) ?_
    refine lv_iload_n hx hb dX8_addTray_30 rfl (lv_at hl 1 rfl) ?_
    refine cl_p (run_V hC (cJ_X8_isHome l G d0 mi Rf ja M E (nI h)) (As := [.int (nI h)]) (rest := []) rfl rfl ml_X8_50 im_X8_isHome se_X8_isHome ini_X8 cd_X8_isHome ⟨rfl, na_X8_isHome⟩ jB_blind (hW.recv hK (show jV M 8 0 from rfl) rfl) (jB_at hX hRf hW hS) hl.1 (Nat.le_of_ble_eq_true rfl) ⟨Nat.le_of_ble_eq_true rfl, Nat.le_of_ble_eq_true rfl⟩ ⟨by show 0 + 0 ≤ 1; omega, by show 0 + 0 ≤ 6; omega⟩ rfl dX8_addTray_31) ?_
    refine lb_ne (tgt := 49) (b := ((hmA M (nI h)).isSome)) hx hb dX8_addTray_34 (by decide) (fun c_2t => ?_) (fun c_2f => ?_)
    · exact jx_ISE hC hl9 hT9 hex hlk hl.1 (text := "no tray can be added there") (by decide) ⟨Nat.le_of_ble_eq_true rfl, Nat.le_of_ble_eq_true rfl, Nat.le_refl _, Nat.le_refl _⟩ (by decide) hQ dX8_addTray_49 dX8_addTray_52 dX8_addTray_53 dX8_addTray_55 dX8_addTray_58
    · refine lv_aload_n hx hb dX8_addTray_37 rfl (lv_at hl 0 rfl) ?_
      refine r1_get hC hK.1 (hW.ob (show jV M 8 0 from rfl)) lay_X8 rfl 2 (by decide) fl_X8_23 (fun x hx => hx) (v := .ref (ja 10 1)) rfl dX8_addTray_38 ?_
      refine jw_size hC hK hW.1 (i := 1) (Or.inl (by decide)) ml_X8_81 hl.1 (Nat.le_of_ble_eq_true rfl) ⟨Nat.le_of_ble_eq_true rfl, Nat.le_of_ble_eq_true rfl, (by show 0 ≤ 1; omega), (by show 0 ≤ 6; omega)⟩ dX8_addTray_41 ?_
      refine top_i (y := nI (nT M)) rfl ?_
      refine lv_bipush (v := 16) hx hb dX8_addTray_44 (by decide) ?_
      refine ln_lt (tgt := 59) (a := (nT M)) (b := 16) hx hb dX8_addTray_46 (by decide) rfl rfl (by omega) (by omega) (fun c_3t => ?_) (fun c_3f => ?_)
      · exact absurd ⟨by simpa using c_1f, by simpa using c_2f, c_3t⟩ hno
      · exact jx_ISE hC hl9 hT9 hex hlk hl.1 (text := "no tray can be added there") (by decide) ⟨Nat.le_of_ble_eq_true rfl, Nat.le_of_ble_eq_true rfl, Nat.le_refl _, Nat.le_refl _⟩ (by decide) hQ dX8_addTray_49 dX8_addTray_52 dX8_addTray_53 dX8_addTray_55 dX8_addTray_58
set_option maxHeartbeats 4000000 in
set_option maxRecDepth 100000 in
theorem cJ_X8_addRobot (l : Launch) (G : gG) (d0 mi : Nat) (Rf : Nat → Prop) (ja : Nat → Nat → Nat) (M : MS) (E : ES) (j : Nat) (k : Nat) (hj : j < 64) (hk : k ≤ 9) (huq18 : uq18 M) (t2 : M 2 j = 0) (t3 : rbA M (nI j) = none) (t4 : nR M < 6) : Met l yX8_addRobot (wB yX8_addRobot cX8_addRobot 4 (some .int)) (rmL 9 2 76) (va_Pc [.ref (ja 8 0), .int (nI j), .int (nI k)] (jB G d0 mi Rf ja M E)) (va_Qi (S := JE) (fun v9 u9 => v9 = nI (nR M) ∧ u9.1 8 0 = ja 8 0 ∧ u9.2 = (rbE M E)) (fun u9 z9 => WJ G d0 Rf u9.1 ((rbD M (nI j) (nI k))) u9.2 z9.heap) (jA Rf)) 2 76 (jA Rf) := by
  refine st_N (own := RX8) (by decide +kernel) rfl (Nat.le_of_ble_eq_true rfl) ?_
  intro p e s m below meth c ls args Q hQ hC hr hlk hnm hl hP
  obtain ⟨hW, hX, hRf⟩ := hP
  have hK := hX.1
  have hx := hC.1
  have hb := hC.2.1
  have hl : lv_has ls 4 [(0, .ref (ja 8 0)), (1, .int (nI j)), (2, .int (nI k))] := hl
  obtain ⟨H, locs, hHe, hLe⟩ : ∃ (H : Heap) (locs : List Loc), H = s.heap ∧ locs = [] := ⟨_, _, rfl, rfl⟩
  rw [← hHe] at hW
  have hS : va_S (jA Rf) s.heap H locs := by rw [hHe, hLe]; exact va_S.rf
  suffices hgo : W p l e (rmL 9 2 76) s m args below meth c H locs 0 0 Q (F0 m 0 ls []) by
    rw [hHe, hLe] at hgo
    exact hgo
  clear hHe hLe
  have h16 := hW.cnt.R6
  refine lv_iload_n hx hb dX8_addRobot_0 rfl (lv_at hl 1 rfl) ?_
  refine cl_pv (run_S hC (cJ_X8_requireCell l j (by omega)) (As := [.int (nI j)]) (rest := []) rfl rfl ml_X8_36 sm_X8_requireCell ini_X8 cd_X8_requireCell na_X8_requireCell tB_blind (fun _ _ _ => trivial) hl.1 (Nat.le_of_ble_eq_true rfl) ⟨Nat.le_of_ble_eq_true rfl, Nat.le_of_ble_eq_true rfl⟩ ⟨by show 0 + 0 ≤ 2; omega, by show 0 + 0 ≤ 76; omega⟩ rfl dX8_addRobot_1) ?_
  refine lv_iload_n hx hb dX8_addRobot_4 rfl (lv_at hl 2 rfl) ?_
  refine lv_iconst (v := 0) hx hb dX8_addRobot_5 (by decide) ?_
  refine lv_bipush (v := 9) hx hb dX8_addRobot_6 (by decide) ?_
  refine cl_pv (run_S hC (cJ_X8_requireRange l (nI k) 0 9 ((nI_rg (j := k) (n := 9) (by omega) (by decide)).1) ((nI_rg (j := k) (n := 9) (by omega) (by decide)).2)) (As := [.int (nI k), .int 0, .int 9]) (rest := []) rfl rfl ml_X8_102 sm_X8_requireRange ini_X8 cd_X8_requireRange na_X8_requireRange tB_blind (fun _ _ _ => trivial) hl.1 (Nat.le_of_ble_eq_true rfl) ⟨Nat.le_of_ble_eq_true rfl, Nat.le_of_ble_eq_true rfl⟩ ⟨by show 0 + 0 ≤ 2; omega, by show 0 + 0 ≤ 76; omega⟩ rfl dX8_addRobot_8) ?_
  refine lv_aload_n hx hb dX8_addRobot_11 rfl (lv_at hl 0 rfl) ?_
  refine r1_get hC hK.1 (hW.ob (show jV M 8 0 from rfl)) lay_X8 rfl 0 (by decide) fl_X8_10 (fun x hx => hx) (v := .ref (ja 0 0)) rfl dX8_addRobot_12 ?_
  refine r1_get hC hK.1 (hW.ob (show jV M 0 0 from rfl)) lay_X0 rfl 0 (by decide) fl_X8_40 (fun x hx => hx) (v := .ref (ja 1 0)) rfl dX8_addRobot_15 ?_
  refine lv_iload_n hx hb dX8_addRobot_18 rfl (lv_at hl 1 rfl) ?_
  refine cl_p (run_V hC (cJ_X1_isWall l G d0 mi Rf ja M E j (by omega)) (As := [.int (nI j)]) (rest := []) rfl rfl ml_X8_44 im_X1_isWall se_X1_isWall ini_X1 cd_X1_isWall ⟨rfl, na_X1_isWall⟩ jB_blind (hW.recv hK (show jV M 1 0 from rfl) rfl) (jB_at hX hRf hW hS) hl.1 (Nat.le_of_ble_eq_true rfl) ⟨Nat.le_of_ble_eq_true rfl, Nat.le_of_ble_eq_true rfl⟩ ⟨by show 0 + 0 ≤ 2; omega, by show 0 + 0 ≤ 76; omega⟩ rfl dX8_addRobot_19) ?_
  refine lb_ne (tgt := 51) (b := (decide (¬ M 2 j = 0))) hx hb dX8_addRobot_22 (by decide) (fun c_1t => ?_) (fun c_1f => ?_)
  · first | (simp [t2] at c_1t; done) | (simp [t3] at c_1t; done) | omega
  · refine lv_aload_n hx hb dX8_addRobot_25 rfl (lv_at hl 0 rfl) ?_
    refine r1_get hC hK.1 (hW.ob (show jV M 8 0 from rfl)) lay_X8 rfl 0 (by decide) fl_X8_10 (fun x hx => hx) (v := .ref (ja 0 0)) rfl dX8_addRobot_26 ?_
    refine lv_iload_n hx hb dX8_addRobot_29 rfl (lv_at hl 1 rfl) ?_
    refine cl_p (run_V hC (cJ_X0_robotAt l G d0 mi Rf ja M E (nI j) huq18) (As := [.int (nI j)]) (rest := []) rfl rfl ml_X8_56 im_X0_robotAt se_X0_robotAt ini_X0 cd_X0_robotAt ⟨rfl, na_X0_robotAt⟩ jB_blind (hW.recv hK (show jV M 0 0 from rfl) rfl) (jB_at hX hRf hW hS) hl.1 (Nat.le_of_ble_eq_true rfl) ⟨Nat.le_of_ble_eq_true rfl, Nat.le_of_ble_eq_true rfl⟩ ⟨by show 0 + 0 ≤ 2; omega, by show 0 + 0 ≤ 76; omega⟩ rfl dX8_addRobot_30) ?_
    rcases ho2 : rbA M (nI j) with _ | k2
    · refine top_v (y := .null) (by first | rfl | (rw [ho2]; rfl)) ?_
      refine lv_ifnonnullN hx hb dX8_addRobot_33 ?_
      refine lv_aload_n hx hb dX8_addRobot_36 rfl (lv_at hl 0 rfl) ?_
      refine r1_get hC hK.1 (hW.ob (show jV M 8 0 from rfl)) lay_X8 rfl 0 (by decide) fl_X8_10 (fun x hx => hx) (v := .ref (ja 0 0)) rfl dX8_addRobot_37 ?_
      refine r1_get hC hK.1 (hW.ob (show jV M 0 0 from rfl)) lay_X0 rfl 1 (by decide) fl_X8_191 (fun x hx => hx) (v := .ref (ja 10 4)) rfl dX8_addRobot_40 ?_
      refine jw_size hC hK hW.1 (i := 4) (Or.inl (by decide)) ml_X8_81 hl.1 (Nat.le_of_ble_eq_true rfl) ⟨Nat.le_of_ble_eq_true rfl, Nat.le_of_ble_eq_true rfl, (by show 0 ≤ 2; omega), (by show 0 ≤ 76; omega)⟩ dX8_addRobot_43 ?_
      refine top_i (y := nI (nR M)) rfl ?_
      refine lv_bipush (v := 6) hx hb dX8_addRobot_46 (by decide) ?_
      refine ln_lt (tgt := 61) (a := (nR M)) (b := 6) hx hb dX8_addRobot_48 (by decide) rfl rfl (by omega) (by omega) (fun c_3t => ?_) (fun c_3f => ?_)
      · have hsz0_ := hS.1
        refine r2_new hC hK hS lay_X5 tyX5 tyX5_ok cl_X8_174 is_X5 ini_X5 (ci := 5) rfl (fs := [.int 0, .int 0, .int 0, .int 0, .null, .null, .int 0, .int 0, .int 0]) df_X5 (by show 0 + 1 ≤ 2; omega) (by show 0 + 9 ≤ 76; omega) dX8_addRobot_61 (fun q H1 hq hat hz1_ hb9 hS => ?_)
        have hnq : ∀ z : Nat, H.size ≤ z → jA Rf z := fun z hz hr9 => by have := hRf z hr9; omega
        have hWb := hW
        have hW := hWb.kept (H1 := H1) (fun z hz _ => hb9 z hz)
        refine lv_dup hx hb dX8_addRobot_64 rfl ?_
        refine lv_aload_n hx hb dX8_addRobot_65 rfl (lv_at hl 0 rfl) ?_
        refine r1_get hC hK.1 (hW.ob (show jV M 8 0 from rfl)) lay_X8 rfl 0 (by decide) fl_X8_10 (fun x hx => hx) (v := .ref (ja 0 0)) rfl dX8_addRobot_66 ?_
        refine r1_get hC hK.1 (hW.ob (show jV M 0 0 from rfl)) lay_X0 rfl 1 (by decide) fl_X8_191 (fun x hx => hx) (v := .ref (ja 10 4)) rfl dX8_addRobot_69 ?_
        refine jw_size hC hK hW.1 (i := 4) (Or.inl (by decide)) ml_X8_81 hl.1 (Nat.le_of_ble_eq_true rfl) ⟨Nat.le_of_ble_eq_true rfl, Nat.le_of_ble_eq_true rfl, (by show 0 + 1 ≤ 2; omega), (by show 0 + 9 ≤ 76; omega)⟩ dX8_addRobot_72 ?_
        refine top_i (y := nI (nR M)) rfl ?_
        refine lv_iload_n hx hb dX8_addRobot_75 rfl (lv_at hl 1 rfl) ?_
        refine lv_iload_n hx hb dX8_addRobot_76 rfl (lv_at hl 2 rfl) ?_
        have hA9 : ∀ z, rvA q H1.size z → jA Rf z := fun z h => hnq z (h.elim (fun e9 => by omega) (fun e9 => by omega))
        refine va_callv (run_I hC (cJ_X5_init l G q H1.size (nI (nR M)) (nI j) (nI k)) (As := [.int (nI (nR M)), .int (nI j), .int (nI k)]) (rest := [.ref q]) rfl rfl ml_X8_196 im_X5_init ini_X5 cd_X5_init rfl na_X5_init vB_blind (fun U hU hW => ⟨by rw [hU], by rw [hU]; exact hat, hK.warm hW⟩) hl.1 (Nat.le_of_ble_eq_true rfl) ⟨Nat.le_of_ble_eq_true rfl, Nat.le_of_ble_eq_true rfl⟩ ⟨by show 0 + 1 + 0 ≤ 2; omega, by show 0 + 9 + 0 ≤ 76; omega⟩ rfl dX8_addRobot_77) hS (fun z _ h => hA9 z h) hA9 (fun _ tt H2 locs2 ht_ al_ _ hB_ hz2_ oq_ hS => ?_)
        rw [ht_] at hB_
        have hb9 : ∀ z : Nat, z < H.size → H2[z]? = H[z]? := fun z hz => (oq_ z (by omega) (fun h => h.elim (fun e9 => by omega) (fun e9 => by omega))).trans (hb9 z hz)
        have hW := hWb.kept (H1 := H2) (fun z hz _ => hb9 z hz)
        refine lv_astore_n (lv' := [(3, .ref q), (0, .ref (ja 8 0)), (1, .int (nI j)), (2, .int (nI k))]) hx hb dX8_addRobot_80 rfl hl (by decide) rfl (fun ls hl => ?_)
        refine lv_aload_n hx hb dX8_addRobot_81 rfl (lv_at hl 1 rfl) ?_
        refine r1_get hC hK.1 (hW.ob (show jV M 8 0 from rfl)) lay_X8 rfl 0 (by decide) fl_X8_10 (fun x hx => hx) (v := .ref (ja 0 0)) rfl dX8_addRobot_82 ?_
        refine r1_get hC hK.1 (hW.ob (show jV M 0 0 from rfl)) lay_X0 rfl 1 (by decide) fl_X8_191 (fun x hx => hx) (v := .ref (ja 10 4)) rfl dX8_addRobot_85 ?_
        refine lv_aload_n hx hb dX8_addRobot_88 rfl (lv_at hl 0 rfl) ?_
        have hVo9 : ¬ jV M 5 (nR M) := fun h => Nat.lt_irrefl _ (show nR M < nR M from h)
        refine jr_new1 hC hX hRf hWb (κ := 5) (n := nR M) (L0 := 4) (by decide) (by unfold jo; omega) hq (hnq q (by omega)) hB_ hb9 hS hVo9 (Or.inl (by decide)) (by omega) (show nR M ≤ 30 by omega) ml_X8_92 hl.1 (Nat.le_of_ble_eq_true rfl) ⟨Nat.le_of_ble_eq_true rfl, Nat.le_of_ble_eq_true rfl⟩ ⟨by show 0 + 1 + 1 ≤ 2; omega, by show 0 + 9 + 67 ≤ 76; omega⟩ dX8_addRobot_89 (fun rz_ H locs w hS => ?_)
        have hW := WJ.addrb (nI j) (nI k) hWb t4 w
        obtain ⟨ja9, hja9⟩ : ∃ z, z = (fun k' i' => if k' = 5 ∧ i' = nR M then q else ja k' i') := ⟨_, rfl⟩
        have hW : WJ G d0 Rf ja9 (rbD M (nI j) (nI k)) (rbE M E) H := by rw [hja9]; exact hW
        have hqn9 : ja9 5 (nR M) = q := by rw [hja9]; exact if_pos ⟨rfl, rfl⟩
        have h9_0 : ja9 8 0 = ja 8 0 := by rw [hja9]; exact if_neg (fun z => absurd z.1 (by decide))
        have hl : lv_has ls 4 [(3, .ref (ja9 5 (nR M))), (0, .ref (ja9 8 0)), (1, .int (nI j)), (2, .int (nI k))] := by rw [hqn9, h9_0]; exact hl
        have h880 : ja9 8 0 = ja 8 0 := h9_0
        clear w hB_ hb9 hWb
        clear hja9 hqn9 h9_0
        obtain ⟨jaO, hjaO⟩ : ∃ z, z = ja := ⟨_, rfl⟩
        rw [← hjaO] at h880
        obtain ⟨ja, hja⟩ : ∃ z, z = ja9 := ⟨_, rfl⟩
        rw [← hja] at hl hW h880
        refine lv_pop hx hb dX8_addRobot_92 rfl ?_
        refine lv_aload_n hx hb dX8_addRobot_93 rfl (lv_at hl 0 rfl) ?_
        refine r1_get hC hK.1 (hW.ob (show jV (rbD M (nI j) (nI k)) 5 (nR M) from (by show nR M < nR (rbD M (nI j) (nI k)); have k9 : nR (rbD M (nI j) (nI k)) = nR M + 1 := rb_n (by omega); omega))) lay_X5 rfl 0 (by decide) fl_X8_197 (fun x hx => hx) (v := .int (nI (nR M))) rfl dX8_addRobot_94 ?_
        subst hQ
        exact rt_qi (ja, (rbE M E)) hx hb hr hlk hS ⟨rfl, by rw [← hjaO]; exact h880, rfl⟩ (fun t9 ht9 _ => by show WJ G d0 Rf _ _ _ t9.heap; rw [ht9]; exact hW) (by show 0 + 1 + 1 ≤ 2; omega) (by show 0 + 9 + 67 ≤ 76; omega) dX8_addRobot_97
      · first | (simp [t2] at c_3f; done) | (simp [t3] at c_3f; done) | omega
    · refine top_v (y := .ref (ja 5 k2)) (by first | rfl | (rw [ho2]; rfl)) ?_
      have hlt_k2 := (lastE_lt ho2).1
      refine lv_ifnonnull (tgt := 51) hx hb dX8_addRobot_33 (by decide) ?_
      first | (simp [t2] at ho2; done) | (simp [t3] at ho2; done) | omega
set_option maxHeartbeats 4000000 in
set_option maxRecDepth 100000 in
theorem cJ_X8_addRobotX1 (l : Launch) (G : gG) (d0 mi : Nat) (Rf : Nat → Prop) (ja : Nat → Nat → Nat) (M : MS) (E : ES) (x : Int32) (y : Int32) (hno : inB x 64 = false) (hl9 : l.stackTraces = false) : vx_Met l yX8_addRobot (wB yX8_addRobot cX8_addRobot 4 (some .int)) (rmL 9 1 6) (va_Pc [.ref (ja 8 0), .int x, .int y] (jT G d0 mi Rf ja M E)) xQ (xN xIAE) 1 6 (jA Rf) := by
  refine st_X (own := RX8) (by decide +kernel) rfl (Nat.le_of_ble_eq_true rfl) ?_
  intro p e s m below meth c ls args Q hQ hC hr hlk hex hl hP
  obtain ⟨⟨hW, hX, hRf⟩, hT9⟩ := hP
  have hK := hX.1
  have hx := hC.1
  have hb := hC.2.1
  have hl : lv_has ls 4 [(0, .ref (ja 8 0)), (1, .int x), (2, .int y)] := hl
  have hS : va_S (jA Rf) s.heap s.heap [] := va_S.rf
  refine lv_iload_n hx hb dX8_addRobot_0 rfl (lv_at hl 1 rfl) ?_
  exact jx_call (run_SX hC (cJ_X8_requireCellX l G d0 mi Rf ja M E x (by assumption) hl9) (As := [.int x]) (rest := []) rfl rfl ml_X8_36 sm_X8_requireCell ini_X8 cd_X8_requireCell na_X8_requireCell jT_blind (jT_at hX hT9 hRf hW hS) hl.1 (Nat.le_of_ble_eq_true rfl) ⟨Nat.le_of_ble_eq_true rfl, Nat.le_of_ble_eq_true rfl⟩ ⟨Nat.le_refl _, Nat.le_refl _⟩ rfl dX8_addRobot_1) hQ hex hlk
set_option maxHeartbeats 4000000 in
set_option maxRecDepth 100000 in
theorem cJ_X8_addRobotX2 (l : Launch) (G : gG) (d0 mi : Nat) (Rf : Nat → Prop) (ja : Nat → Nat → Nat) (M : MS) (E : ES) (j : Nat) (y : Int32) (hj : j < 64) (hno : inB y 10 = false) (hl9 : l.stackTraces = false) : vx_Met l yX8_addRobot (wB yX8_addRobot cX8_addRobot 4 (some .int)) (rmL 9 1 6) (va_Pc [.ref (ja 8 0), .int (nI j), .int y] (jT G d0 mi Rf ja M E)) xQ (xN xIAE) 1 6 (jA Rf) := by
  refine st_X (own := RX8) (by decide +kernel) rfl (Nat.le_of_ble_eq_true rfl) ?_
  intro p e s m below meth c ls args Q hQ hC hr hlk hex hl hP
  obtain ⟨⟨hW, hX, hRf⟩, hT9⟩ := hP
  have hK := hX.1
  have hx := hC.1
  have hb := hC.2.1
  have hl : lv_has ls 4 [(0, .ref (ja 8 0)), (1, .int (nI j)), (2, .int y)] := hl
  have hS : va_S (jA Rf) s.heap s.heap [] := va_S.rf
  refine lv_iload_n hx hb dX8_addRobot_0 rfl (lv_at hl 1 rfl) ?_
  refine cl_pv (run_S hC (cJ_X8_requireCell l j (by omega)) (As := [.int (nI j)]) (rest := []) rfl rfl ml_X8_36 sm_X8_requireCell ini_X8 cd_X8_requireCell na_X8_requireCell tB_blind (fun _ _ _ => trivial) hl.1 (Nat.le_of_ble_eq_true rfl) ⟨Nat.le_of_ble_eq_true rfl, Nat.le_of_ble_eq_true rfl⟩ ⟨by show 0 + 0 ≤ 1; omega, by show 0 + 0 ≤ 6; omega⟩ rfl dX8_addRobot_1) ?_
  refine lv_iload_n hx hb dX8_addRobot_4 rfl (lv_at hl 2 rfl) ?_
  refine lv_iconst (v := 0) hx hb dX8_addRobot_5 (by decide) ?_
  refine lv_bipush (v := 9) hx hb dX8_addRobot_6 (by decide) ?_
  exact jx_call (run_SX hC (cJ_X8_requireRangeX l G d0 mi Rf ja M E y 0 9 (inB_n (n := 9) (by decide) hno) hl9) (As := [.int y, .int 0, .int 9]) (rest := []) rfl rfl ml_X8_102 sm_X8_requireRange ini_X8 cd_X8_requireRange na_X8_requireRange jT_blind (jT_at hX hT9 hRf hW hS) hl.1 (Nat.le_of_ble_eq_true rfl) ⟨Nat.le_of_ble_eq_true rfl, Nat.le_of_ble_eq_true rfl⟩ ⟨Nat.le_refl _, Nat.le_refl _⟩ rfl dX8_addRobot_8) hQ hex hlk
set_option maxHeartbeats 4000000 in
set_option maxRecDepth 100000 in
theorem cJ_X8_addRobotX3 (l : Launch) (G : gG) (d0 mi : Nat) (Rf : Nat → Prop) (ja : Nat → Nat → Nat) (M : MS) (E : ES) (j : Nat) (k : Nat) (hj : j < 64) (hk : k ≤ 9) (huq18 : uq18 M) (hno : ¬ (M 2 j = 0 ∧ rbA M (nI j) = none ∧ nR M < 6)) (hl9 : l.stackTraces = false) : vx_Met l yX8_addRobot (wB yX8_addRobot cX8_addRobot 4 (some .int)) (rmL 9 1 6) (va_Pc [.ref (ja 8 0), .int (nI j), .int (nI k)] (jT G d0 mi Rf ja M E)) xQ (xN xISE) 1 6 (jA Rf) := by
  refine st_X (own := RX8) (by decide +kernel) rfl (Nat.le_of_ble_eq_true rfl) ?_
  intro p e s m below meth c ls args Q hQ hC hr hlk hex hl hP
  obtain ⟨⟨hW, hX, hRf⟩, hT9⟩ := hP
  have hK := hX.1
  have hx := hC.1
  have hb := hC.2.1
  have hl : lv_has ls 4 [(0, .ref (ja 8 0)), (1, .int (nI j)), (2, .int (nI k))] := hl
  have hS : va_S (jA Rf) s.heap s.heap [] := va_S.rf
  have h16 := hW.cnt.R6
  refine lv_iload_n hx hb dX8_addRobot_0 rfl (lv_at hl 1 rfl) ?_
  refine cl_pv (run_S hC (cJ_X8_requireCell l j (by omega)) (As := [.int (nI j)]) (rest := []) rfl rfl ml_X8_36 sm_X8_requireCell ini_X8 cd_X8_requireCell na_X8_requireCell tB_blind (fun _ _ _ => trivial) hl.1 (Nat.le_of_ble_eq_true rfl) ⟨Nat.le_of_ble_eq_true rfl, Nat.le_of_ble_eq_true rfl⟩ ⟨by show 0 + 0 ≤ 1; omega, by show 0 + 0 ≤ 6; omega⟩ rfl dX8_addRobot_1) ?_
  refine lv_iload_n hx hb dX8_addRobot_4 rfl (lv_at hl 2 rfl) ?_
  refine lv_iconst (v := 0) hx hb dX8_addRobot_5 (by decide) ?_
  refine lv_bipush (v := 9) hx hb dX8_addRobot_6 (by decide) ?_
  refine cl_pv (run_S hC (cJ_X8_requireRange l (nI k) 0 9 ((nI_rg (j := k) (n := 9) (by omega) (by decide)).1) ((nI_rg (j := k) (n := 9) (by omega) (by decide)).2)) (As := [.int (nI k), .int 0, .int 9]) (rest := []) rfl rfl ml_X8_102 sm_X8_requireRange ini_X8 cd_X8_requireRange na_X8_requireRange tB_blind (fun _ _ _ => trivial) hl.1 (Nat.le_of_ble_eq_true rfl) ⟨Nat.le_of_ble_eq_true rfl, Nat.le_of_ble_eq_true rfl⟩ ⟨by show 0 + 0 ≤ 1; omega, by show 0 + 0 ≤ 6; omega⟩ rfl dX8_addRobot_8) ?_
  refine lv_aload_n hx hb dX8_addRobot_11 rfl (lv_at hl 0 rfl) ?_
  refine r1_get hC hK.1 (hW.ob (show jV M 8 0 from rfl)) lay_X8 rfl 0 (by decide) fl_X8_10 (fun x hx => hx) (v := .ref (ja 0 0)) rfl dX8_addRobot_12 ?_
  refine r1_get hC hK.1 (hW.ob (show jV M 0 0 from rfl)) lay_X0 rfl 0 (by decide) fl_X8_40 (fun x hx => hx) (v := .ref (ja 1 0)) rfl dX8_addRobot_15 ?_
  refine lv_iload_n hx hb dX8_addRobot_18 rfl (lv_at hl 1 rfl) ?_
  refine cl_p (run_V hC (cJ_X1_isWall l G d0 mi Rf ja M E j (by omega)) (As := [.int (nI j)]) (rest := []) rfl rfl ml_X8_44 im_X1_isWall se_X1_isWall ini_X1 cd_X1_isWall ⟨rfl, na_X1_isWall⟩ jB_blind (hW.recv hK (show jV M 1 0 from rfl) rfl) (jB_at hX hRf hW hS) hl.1 (Nat.le_of_ble_eq_true rfl) ⟨Nat.le_of_ble_eq_true rfl, Nat.le_of_ble_eq_true rfl⟩ ⟨by show 0 + 0 ≤ 1; omega, by show 0 + 0 ≤ 6; omega⟩ rfl dX8_addRobot_19) ?_
  refine lb_ne (tgt := 51) (b := (decide (¬ M 2 j = 0))) hx hb dX8_addRobot_22 (by decide) (fun c_1t => ?_) (fun c_1f => ?_)
  · exact jx_ISE hC hl9 hT9 hex hlk hl.1 (text := "no robot can be added there") (by decide) ⟨Nat.le_of_ble_eq_true rfl, Nat.le_of_ble_eq_true rfl, Nat.le_refl _, Nat.le_refl _⟩ (by decide) hQ dX8_addRobot_51 dX8_addRobot_54 dX8_addRobot_55 dX8_addRobot_57 dX8_addRobot_60
  · refine lv_aload_n hx hb dX8_addRobot_25 rfl (lv_at hl 0 rfl) ?_
    refine r1_get hC hK.1 (hW.ob (show jV M 8 0 from rfl)) lay_X8 rfl 0 (by decide) fl_X8_10 (fun x hx => hx) (v := .ref (ja 0 0)) rfl dX8_addRobot_26 ?_
    refine lv_iload_n hx hb dX8_addRobot_29 rfl (lv_at hl 1 rfl) ?_
    refine cl_p (run_V hC (cJ_X0_robotAt l G d0 mi Rf ja M E (nI j) huq18) (As := [.int (nI j)]) (rest := []) rfl rfl ml_X8_56 im_X0_robotAt se_X0_robotAt ini_X0 cd_X0_robotAt ⟨rfl, na_X0_robotAt⟩ jB_blind (hW.recv hK (show jV M 0 0 from rfl) rfl) (jB_at hX hRf hW hS) hl.1 (Nat.le_of_ble_eq_true rfl) ⟨Nat.le_of_ble_eq_true rfl, Nat.le_of_ble_eq_true rfl⟩ ⟨by show 0 + 0 ≤ 1; omega, by show 0 + 0 ≤ 6; omega⟩ rfl dX8_addRobot_30) ?_
    rcases ho2 : rbA M (nI j) with _ | k2
    · refine top_v (y := .null) (by first | rfl | (rw [ho2]; rfl)) ?_
      refine lv_ifnonnullN hx hb dX8_addRobot_33 ?_
      refine lv_aload_n hx hb dX8_addRobot_36 rfl (lv_at hl 0 rfl) ?_
      refine r1_get hC hK.1 (hW.ob (show jV M 8 0 from rfl)) lay_X8 rfl 0 (by decide) fl_X8_10 (fun x hx => hx) (v := .ref (ja 0 0)) rfl dX8_addRobot_37 ?_
      refine r1_get hC hK.1 (hW.ob (show jV M 0 0 from rfl)) lay_X0 rfl 1 (by decide) fl_X8_191 (fun x hx => hx) (v := .ref (ja 10 4)) rfl dX8_addRobot_40 ?_
      refine jw_size hC hK hW.1 (i := 4) (Or.inl (by decide)) ml_X8_81 hl.1 (Nat.le_of_ble_eq_true rfl) ⟨Nat.le_of_ble_eq_true rfl, Nat.le_of_ble_eq_true rfl, (by show 0 ≤ 1; omega), (by show 0 ≤ 6; omega)⟩ dX8_addRobot_43 ?_
      refine top_i (y := nI (nR M)) rfl ?_
      refine lv_bipush (v := 6) hx hb dX8_addRobot_46 (by decide) ?_
      refine ln_lt (tgt := 61) (a := (nR M)) (b := 6) hx hb dX8_addRobot_48 (by decide) rfl rfl (by omega) (by omega) (fun c_3t => ?_) (fun c_3f => ?_)
      · exact absurd ⟨by simpa using c_1f, ho2, c_3t⟩ hno
      · exact jx_ISE hC hl9 hT9 hex hlk hl.1 (text := "no robot can be added there") (by decide) ⟨Nat.le_of_ble_eq_true rfl, Nat.le_of_ble_eq_true rfl, Nat.le_refl _, Nat.le_refl _⟩ (by decide) hQ dX8_addRobot_51 dX8_addRobot_54 dX8_addRobot_55 dX8_addRobot_57 dX8_addRobot_60
    · refine top_v (y := .ref (ja 5 k2)) (by first | rfl | (rw [ho2]; rfl)) ?_
      have hlt_k2 := (lastE_lt ho2).1
      refine lv_ifnonnull (tgt := 51) hx hb dX8_addRobot_33 (by decide) ?_
      exact jx_ISE hC hl9 hT9 hex hlk hl.1 (text := "no robot can be added there") (by decide) ⟨Nat.le_of_ble_eq_true rfl, Nat.le_of_ble_eq_true rfl, Nat.le_refl _, Nat.le_refl _⟩ (by decide) hQ dX8_addRobot_51 dX8_addRobot_54 dX8_addRobot_55 dX8_addRobot_57 dX8_addRobot_60
set_option maxHeartbeats 4000000 in
set_option maxRecDepth 100000 in
theorem cJ_X8_addStation (l : Launch) (G : gG) (d0 mi : Nat) (Rf : Nat → Prop) (ja : Nat → Nat → Nat) (M : MS) (E : ES) (j : Nat) (hj : j < 64) (t2 : M 2 j = 0) (t3 : stA M (nI j) = none) (t4 : nS M < 3) : Met l yX8_addStation (wB yX8_addStation cX8_addStation 3 (some .int)) (rmL 9 3 73) (va_Pc [.ref (ja 8 0), .int (nI j)] (jB G d0 mi Rf ja M E)) (va_Qi (S := JE) (fun v9 u9 => v9 = nI (nS M) ∧ u9.1 8 0 = ja 8 0 ∧ u9.2 = (stE M E)) (fun u9 z9 => WJ G d0 Rf u9.1 ((stD M (nI j))) u9.2 z9.heap) (jA Rf)) 3 73 (jA Rf) := by
  refine st_N (own := RX8) (by decide +kernel) rfl (Nat.le_of_ble_eq_true rfl) ?_
  intro p e s m below meth c ls args Q hQ hC hr hlk hnm hl hP
  obtain ⟨hW, hX, hRf⟩ := hP
  have hK := hX.1
  have hx := hC.1
  have hb := hC.2.1
  have hl : lv_has ls 3 [(0, .ref (ja 8 0)), (1, .int (nI j))] := hl
  obtain ⟨H, locs, hHe, hLe⟩ : ∃ (H : Heap) (locs : List Loc), H = s.heap ∧ locs = [] := ⟨_, _, rfl, rfl⟩
  rw [← hHe] at hW
  have hS : va_S (jA Rf) s.heap H locs := by rw [hHe, hLe]; exact va_S.rf
  suffices hgo : W p l e (rmL 9 3 73) s m args below meth c H locs 0 0 Q (F0 m 0 ls []) by
    rw [hHe, hLe] at hgo
    exact hgo
  clear hHe hLe
  have h16 := hW.cnt.S3
  have h10 := hW.cnt.O10
  refine lv_iload_n hx hb dX8_addStation_0 rfl (lv_at hl 1 rfl) ?_
  refine cl_pv (run_S hC (cJ_X8_requireCell l j (by omega)) (As := [.int (nI j)]) (rest := []) rfl rfl ml_X8_36 sm_X8_requireCell ini_X8 cd_X8_requireCell na_X8_requireCell tB_blind (fun _ _ _ => trivial) hl.1 (Nat.le_of_ble_eq_true rfl) ⟨Nat.le_of_ble_eq_true rfl, Nat.le_of_ble_eq_true rfl⟩ ⟨by show 0 + 0 ≤ 3; omega, by show 0 + 0 ≤ 73; omega⟩ rfl dX8_addStation_1) ?_
  refine lv_aload_n hx hb dX8_addStation_4 rfl (lv_at hl 0 rfl) ?_
  refine r1_get hC hK.1 (hW.ob (show jV M 8 0 from rfl)) lay_X8 rfl 0 (by decide) fl_X8_10 (fun x hx => hx) (v := .ref (ja 0 0)) rfl dX8_addStation_5 ?_
  refine r1_get hC hK.1 (hW.ob (show jV M 0 0 from rfl)) lay_X0 rfl 0 (by decide) fl_X8_40 (fun x hx => hx) (v := .ref (ja 1 0)) rfl dX8_addStation_8 ?_
  refine lv_iload_n hx hb dX8_addStation_11 rfl (lv_at hl 1 rfl) ?_
  refine cl_p (run_V hC (cJ_X1_isWall l G d0 mi Rf ja M E j (by omega)) (As := [.int (nI j)]) (rest := []) rfl rfl ml_X8_44 im_X1_isWall se_X1_isWall ini_X1 cd_X1_isWall ⟨rfl, na_X1_isWall⟩ jB_blind (hW.recv hK (show jV M 1 0 from rfl) rfl) (jB_at hX hRf hW hS) hl.1 (Nat.le_of_ble_eq_true rfl) ⟨Nat.le_of_ble_eq_true rfl, Nat.le_of_ble_eq_true rfl⟩ ⟨by show 0 + 0 ≤ 3; omega, by show 0 + 0 ≤ 73; omega⟩ rfl dX8_addStation_12) ?_
  refine lb_ne (tgt := 37) (b := (decide (¬ M 2 j = 0))) hx hb dX8_addStation_15 (by decide) (fun c_1t => ?_) (fun c_1f => ?_)
  · first | (simp [t2, t3] at c_1t; done) | omega
  · refine lv_aload_n hx hb dX8_addStation_18 rfl (lv_at hl 0 rfl) ?_
    refine lv_iload_n hx hb dX8_addStation_19 rfl (lv_at hl 1 rfl) ?_
    refine cl_p (run_V hC (cJ_X8_isStation l G d0 mi Rf ja M E (nI j)) (As := [.int (nI j)]) (rest := []) rfl rfl ml_X8_53 im_X8_isStation se_X8_isStation ini_X8 cd_X8_isStation ⟨rfl, na_X8_isStation⟩ jB_blind (hW.recv hK (show jV M 8 0 from rfl) rfl) (jB_at hX hRf hW hS) hl.1 (Nat.le_of_ble_eq_true rfl) ⟨Nat.le_of_ble_eq_true rfl, Nat.le_of_ble_eq_true rfl⟩ ⟨by show 0 + 0 ≤ 3; omega, by show 0 + 0 ≤ 73; omega⟩ rfl dX8_addStation_20) ?_
    refine lb_ne (tgt := 37) (b := ((stA M (nI j)).isSome)) hx hb dX8_addStation_23 (by decide) (fun c_2t => ?_) (fun c_2f => ?_)
    · first | (simp [t2, t3] at c_2t; done) | omega
    · refine lv_aload_n hx hb dX8_addStation_26 rfl (lv_at hl 0 rfl) ?_
      refine r1_get hC hK.1 (hW.ob (show jV M 8 0 from rfl)) lay_X8 rfl 1 (by decide) fl_X8_19 (fun x hx => hx) (v := .ref (ja 10 0)) rfl dX8_addStation_27 ?_
      refine jw_size hC hK hW.1 (i := 0) (Or.inl (by decide)) ml_X8_81 hl.1 (Nat.le_of_ble_eq_true rfl) ⟨Nat.le_of_ble_eq_true rfl, Nat.le_of_ble_eq_true rfl, (by show 0 ≤ 3; omega), (by show 0 ≤ 73; omega)⟩ dX8_addStation_30 ?_
      refine top_i (y := nI (nS M)) rfl ?_
      refine lv_iconst (v := 3) hx hb dX8_addStation_33 (by decide) ?_
      refine ln_lt (tgt := 47) (a := (nS M)) (b := 3) hx hb dX8_addStation_34 (by decide) rfl rfl (by omega) (by omega) (fun c_3t => ?_) (fun c_3f => ?_)
      · have hsz0_ := hS.1
        refine r2_new hC hK hS lay_X6 tyX6 tyX6_ok cl_X8_87 is_X6 ini_X6 (ci := 6) rfl (fs := [.int 0, .int 0, .null]) df_X6 (by show 0 + 1 ≤ 3; omega) (by show 0 + 3 ≤ 73; omega) dX8_addStation_47 (fun q H1 hq hat hz1_ hb9 hS => ?_)
        have hnq : ∀ z : Nat, H.size ≤ z → jA Rf z := fun z hz hr9 => by have := hRf z hr9; omega
        have hWb := hW
        have hW := hWb.kept (H1 := H1) (fun z hz _ => hb9 z hz)
        refine lv_dup hx hb dX8_addStation_50 rfl ?_
        refine lv_aload_n hx hb dX8_addStation_51 rfl (lv_at hl 0 rfl) ?_
        refine r1_get hC hK.1 (hW.ob (show jV M 8 0 from rfl)) lay_X8 rfl 1 (by decide) fl_X8_19 (fun x hx => hx) (v := .ref (ja 10 0)) rfl dX8_addStation_52 ?_
        refine jw_size hC hK hW.1 (i := 0) (Or.inl (by decide)) ml_X8_81 hl.1 (Nat.le_of_ble_eq_true rfl) ⟨Nat.le_of_ble_eq_true rfl, Nat.le_of_ble_eq_true rfl, (by show 0 + 1 ≤ 3; omega), (by show 0 + 3 ≤ 73; omega)⟩ dX8_addStation_55 ?_
        refine top_i (y := nI (nS M)) rfl ?_
        refine lv_iload_n hx hb dX8_addStation_58 rfl (lv_at hl 1 rfl) ?_
        have hA9 : ∀ z, rvA q H1.size z → jA Rf z := fun z h => hnq z (h.elim (fun e9 => by omega) (fun e9 => by omega))
        refine va_callv (run_I hC (cJ_X6_init l G d0 mi q H1.size (nI (nS M)) (nI j)) (As := [.int (nI (nS M)), .int (nI j)]) (rest := [.ref q]) rfl rfl ml_X8_89 im_X6_init ini_X6 cd_X6_init rfl na_X6_init xB_blind (fun U hU hW => ⟨by rw [hU], by rw [hU]; exact hat, hX.at hS (fun z h => hA9 z h) hU hW⟩) hl.1 (Nat.le_of_ble_eq_true rfl) ⟨Nat.le_of_ble_eq_true rfl, Nat.le_of_ble_eq_true rfl⟩ ⟨by show 0 + 1 + 1 ≤ 3; omega, by show 0 + 3 + 3 ≤ 73; omega⟩ rfl dX8_addStation_59) hS (fun z _ h => hA9 z h) hA9 (fun q2 tt H2 locs2 ht_ al_ _ hB_ hz2_ oq_ hS => ?_)
        rw [ht_] at hB_
        obtain ⟨hq2, hB_, hB2_⟩ := hB_
        have hb9 : ∀ z : Nat, z < H.size → H2[z]? = H[z]? := fun z hz => (oq_ z (by omega) (fun h => h.elim (fun e9 => by omega) (fun e9 => by omega))).trans (hb9 z hz)
        have hW := hWb.kept (H1 := H2) (fun z hz _ => hb9 z hz)
        refine lv_astore_n (lv' := [(2, .ref q), (0, .ref (ja 8 0)), (1, .int (nI j))]) hx hb dX8_addStation_62 rfl hl (by decide) rfl (fun ls hl => ?_)
        refine lv_aload_n hx hb dX8_addStation_63 rfl (lv_at hl 1 rfl) ?_
        refine r1_get hC hK.1 (hW.ob (show jV M 8 0 from rfl)) lay_X8 rfl 1 (by decide) fl_X8_19 (fun x hx => hx) (v := .ref (ja 10 0)) rfl dX8_addStation_64 ?_
        refine lv_aload_n hx hb dX8_addStation_67 rfl (lv_at hl 0 rfl) ?_
        have hVo9 : ¬ jV M 6 (nS M) := fun h => Nat.lt_irrefl _ (show nS M < nS M from h)
        have hnl9 : ¬ jLV M (17 + nS M) := (by unfold jLV; omega)
        refine jr_new2 hC hX hRf hWb (κ := 6) (n := nS M) (L0 := 0) (il := 17 + nS M) (by decide) (by unfold jo; omega) hq (hnq q (by omega)) (by omega) (hnq q2 (by omega)) hB2_ hnl9 hB_ hb9 hS hVo9 (Or.inl (by decide)) (by omega) (show nS M ≤ 30 by omega) ml_X8_92 hl.1 (Nat.le_of_ble_eq_true rfl) ⟨Nat.le_of_ble_eq_true rfl, Nat.le_of_ble_eq_true rfl⟩ ⟨by show 0 + 1 + 1 + 1 ≤ 3; omega, by show 0 + 3 + 3 + 67 ≤ 73; omega⟩ dX8_addStation_68 (fun rz_ H locs w hS => ?_)
        have hW := WJ.addst (nI j) hWb t4 w
        obtain ⟨ja9, hja9⟩ : ∃ z, z = (fun k' i' => if k' = 6 ∧ i' = nS M then q else if k' = 10 ∧ i' = 17 + nS M then q2 else ja k' i') := ⟨_, rfl⟩
        have hW : WJ G d0 Rf ja9 (stD M (nI j)) (stE M E) H := by rw [hja9]; exact hW
        have hqn9 : ja9 6 (nS M) = q := by rw [hja9]; exact if_pos ⟨rfl, rfl⟩
        have h9_0 : ja9 8 0 = ja 8 0 := by rw [hja9]; exact (if_neg (fun z => absurd z.1 (by decide))).trans (if_neg (fun z => absurd z.1 (by decide)))
        have hl : lv_has ls 3 [(2, .ref (ja9 6 (nS M))), (0, .ref (ja9 8 0)), (1, .int (nI j))] := by rw [hqn9, h9_0]; exact hl
        have h880 : ja9 8 0 = ja 8 0 := h9_0
        clear w hB_ hb9 hWb
        clear hja9 hqn9 h9_0
        obtain ⟨jaO, hjaO⟩ : ∃ z, z = ja := ⟨_, rfl⟩
        rw [← hjaO] at h880
        obtain ⟨ja, hja⟩ : ∃ z, z = ja9 := ⟨_, rfl⟩
        rw [← hja] at hl hW h880
        refine lv_pop hx hb dX8_addStation_71 rfl ?_
        refine lv_aload_n hx hb dX8_addStation_72 rfl (lv_at hl 0 rfl) ?_
        refine r1_get hC hK.1 (hW.ob (show jV (stD M (nI j)) 6 (nS M) from (by show nS M < nS (stD M (nI j)); have k9 : nS (stD M (nI j)) = nS M + 1 := st_n (by omega); omega))) lay_X6 rfl 0 (by decide) fl_X8_96 (fun x hx => hx) (v := .int (nI (nS M))) rfl dX8_addStation_73 ?_
        subst hQ
        exact rt_qi (ja, (stE M E)) hx hb hr hlk hS ⟨rfl, by rw [← hjaO]; exact h880, rfl⟩ (fun t9 ht9 _ => by show WJ G d0 Rf _ _ _ t9.heap; rw [ht9]; exact hW) (by show 0 + 1 + 1 + 1 ≤ 3; omega) (by show 0 + 3 + 3 + 67 ≤ 73; omega) dX8_addStation_76
      · first | (simp [t2, t3] at c_3f; done) | omega
set_option maxHeartbeats 4000000 in
set_option maxRecDepth 100000 in
theorem cJ_X8_addStationX1 (l : Launch) (G : gG) (d0 mi : Nat) (Rf : Nat → Prop) (ja : Nat → Nat → Nat) (M : MS) (E : ES) (x : Int32) (hno : inB x 64 = false) (hl9 : l.stackTraces = false) : vx_Met l yX8_addStation (wB yX8_addStation cX8_addStation 3 (some .int)) (rmL 9 1 6) (va_Pc [.ref (ja 8 0), .int x] (jT G d0 mi Rf ja M E)) xQ (xN xIAE) 1 6 (jA Rf) := by
  refine st_X (own := RX8) (by decide +kernel) rfl (Nat.le_of_ble_eq_true rfl) ?_
  intro p e s m below meth c ls args Q hQ hC hr hlk hex hl hP
  obtain ⟨⟨hW, hX, hRf⟩, hT9⟩ := hP
  have hK := hX.1
  have hx := hC.1
  have hb := hC.2.1
  have hl : lv_has ls 3 [(0, .ref (ja 8 0)), (1, .int x)] := hl
  have hS : va_S (jA Rf) s.heap s.heap [] := va_S.rf
  refine lv_iload_n hx hb dX8_addStation_0 rfl (lv_at hl 1 rfl) ?_
  exact jx_call (run_SX hC (cJ_X8_requireCellX l G d0 mi Rf ja M E x (by assumption) hl9) (As := [.int x]) (rest := []) rfl rfl ml_X8_36 sm_X8_requireCell ini_X8 cd_X8_requireCell na_X8_requireCell jT_blind (jT_at hX hT9 hRf hW hS) hl.1 (Nat.le_of_ble_eq_true rfl) ⟨Nat.le_of_ble_eq_true rfl, Nat.le_of_ble_eq_true rfl⟩ ⟨Nat.le_refl _, Nat.le_refl _⟩ rfl dX8_addStation_1) hQ hex hlk
set_option maxHeartbeats 4000000 in
set_option maxRecDepth 100000 in
theorem cJ_X8_addStationX2 (l : Launch) (G : gG) (d0 mi : Nat) (Rf : Nat → Prop) (ja : Nat → Nat → Nat) (M : MS) (E : ES) (j : Nat) (hj : j < 64) (hno : ¬ (M 2 j = 0 ∧ stA M (nI j) = none ∧ nS M < 3)) (hl9 : l.stackTraces = false) : vx_Met l yX8_addStation (wB yX8_addStation cX8_addStation 3 (some .int)) (rmL 9 1 6) (va_Pc [.ref (ja 8 0), .int (nI j)] (jT G d0 mi Rf ja M E)) xQ (xN xISE) 1 6 (jA Rf) := by
  refine st_X (own := RX8) (by decide +kernel) rfl (Nat.le_of_ble_eq_true rfl) ?_
  intro p e s m below meth c ls args Q hQ hC hr hlk hex hl hP
  obtain ⟨⟨hW, hX, hRf⟩, hT9⟩ := hP
  have hK := hX.1
  have hx := hC.1
  have hb := hC.2.1
  have hl : lv_has ls 3 [(0, .ref (ja 8 0)), (1, .int (nI j))] := hl
  have hS : va_S (jA Rf) s.heap s.heap [] := va_S.rf
  have h16 := hW.cnt.S3
  refine lv_iload_n hx hb dX8_addStation_0 rfl (lv_at hl 1 rfl) ?_
  refine cl_pv (run_S hC (cJ_X8_requireCell l j (by omega)) (As := [.int (nI j)]) (rest := []) rfl rfl ml_X8_36 sm_X8_requireCell ini_X8 cd_X8_requireCell na_X8_requireCell tB_blind (fun _ _ _ => trivial) hl.1 (Nat.le_of_ble_eq_true rfl) ⟨Nat.le_of_ble_eq_true rfl, Nat.le_of_ble_eq_true rfl⟩ ⟨by show 0 + 0 ≤ 1; omega, by show 0 + 0 ≤ 6; omega⟩ rfl dX8_addStation_1) ?_
  refine lv_aload_n hx hb dX8_addStation_4 rfl (lv_at hl 0 rfl) ?_
  refine r1_get hC hK.1 (hW.ob (show jV M 8 0 from rfl)) lay_X8 rfl 0 (by decide) fl_X8_10 (fun x hx => hx) (v := .ref (ja 0 0)) rfl dX8_addStation_5 ?_
  refine r1_get hC hK.1 (hW.ob (show jV M 0 0 from rfl)) lay_X0 rfl 0 (by decide) fl_X8_40 (fun x hx => hx) (v := .ref (ja 1 0)) rfl dX8_addStation_8 ?_
  refine lv_iload_n hx hb dX8_addStation_11 rfl (lv_at hl 1 rfl) ?_
  refine cl_p (run_V hC (cJ_X1_isWall l G d0 mi Rf ja M E j (by omega)) (As := [.int (nI j)]) (rest := []) rfl rfl ml_X8_44 im_X1_isWall se_X1_isWall ini_X1 cd_X1_isWall ⟨rfl, na_X1_isWall⟩ jB_blind (hW.recv hK (show jV M 1 0 from rfl) rfl) (jB_at hX hRf hW hS) hl.1 (Nat.le_of_ble_eq_true rfl) ⟨Nat.le_of_ble_eq_true rfl, Nat.le_of_ble_eq_true rfl⟩ ⟨by show 0 + 0 ≤ 1; omega, by show 0 + 0 ≤ 6; omega⟩ rfl dX8_addStation_12) ?_
  refine lb_ne (tgt := 37) (b := (decide (¬ M 2 j = 0))) hx hb dX8_addStation_15 (by decide) (fun c_1t => ?_) (fun c_1f => ?_)
  · exact jx_ISE hC hl9 hT9 hex hlk hl.1 (text := "no station can be added there") (by decide) ⟨Nat.le_of_ble_eq_true rfl, Nat.le_of_ble_eq_true rfl, Nat.le_refl _, Nat.le_refl _⟩ (by decide) hQ dX8_addStation_37 dX8_addStation_40 dX8_addStation_41 dX8_addStation_43 dX8_addStation_46
  · refine lv_aload_n hx hb dX8_addStation_18 rfl (lv_at hl 0 rfl) ?_
    refine lv_iload_n hx hb dX8_addStation_19 rfl (lv_at hl 1 rfl) ?_
    refine cl_p (run_V hC (cJ_X8_isStation l G d0 mi Rf ja M E (nI j)) (As := [.int (nI j)]) (rest := []) rfl rfl ml_X8_53 im_X8_isStation se_X8_isStation ini_X8 cd_X8_isStation ⟨rfl, na_X8_isStation⟩ jB_blind (hW.recv hK (show jV M 8 0 from rfl) rfl) (jB_at hX hRf hW hS) hl.1 (Nat.le_of_ble_eq_true rfl) ⟨Nat.le_of_ble_eq_true rfl, Nat.le_of_ble_eq_true rfl⟩ ⟨by show 0 + 0 ≤ 1; omega, by show 0 + 0 ≤ 6; omega⟩ rfl dX8_addStation_20) ?_
    refine lb_ne (tgt := 37) (b := ((stA M (nI j)).isSome)) hx hb dX8_addStation_23 (by decide) (fun c_2t => ?_) (fun c_2f => ?_)
    · exact jx_ISE hC hl9 hT9 hex hlk hl.1 (text := "no station can be added there") (by decide) ⟨Nat.le_of_ble_eq_true rfl, Nat.le_of_ble_eq_true rfl, Nat.le_refl _, Nat.le_refl _⟩ (by decide) hQ dX8_addStation_37 dX8_addStation_40 dX8_addStation_41 dX8_addStation_43 dX8_addStation_46
    · refine lv_aload_n hx hb dX8_addStation_26 rfl (lv_at hl 0 rfl) ?_
      refine r1_get hC hK.1 (hW.ob (show jV M 8 0 from rfl)) lay_X8 rfl 1 (by decide) fl_X8_19 (fun x hx => hx) (v := .ref (ja 10 0)) rfl dX8_addStation_27 ?_
      refine jw_size hC hK hW.1 (i := 0) (Or.inl (by decide)) ml_X8_81 hl.1 (Nat.le_of_ble_eq_true rfl) ⟨Nat.le_of_ble_eq_true rfl, Nat.le_of_ble_eq_true rfl, (by show 0 ≤ 1; omega), (by show 0 ≤ 6; omega)⟩ dX8_addStation_30 ?_
      refine top_i (y := nI (nS M)) rfl ?_
      refine lv_iconst (v := 3) hx hb dX8_addStation_33 (by decide) ?_
      refine ln_lt (tgt := 47) (a := (nS M)) (b := 3) hx hb dX8_addStation_34 (by decide) rfl rfl (by omega) (by omega) (fun c_3t => ?_) (fun c_3f => ?_)
      · exact absurd ⟨by simpa using c_1f, by simpa using c_2f, c_3t⟩ hno
      · exact jx_ISE hC hl9 hT9 hex hlk hl.1 (text := "no station can be added there") (by decide) ⟨Nat.le_of_ble_eq_true rfl, Nat.le_of_ble_eq_true rfl, Nat.le_refl _, Nat.le_refl _⟩ (by decide) hQ dX8_addStation_37 dX8_addStation_40 dX8_addStation_41 dX8_addStation_43 dX8_addStation_46
set_option maxHeartbeats 4000000 in
set_option maxRecDepth 100000 in
theorem cJ_X8_addOrder (l : Launch) (G : gG) (d0 mi : Nat) (Rf : Nat → Prop) (ja : Nat → Nat → Nat) (M : MS) (E : ES) (t4 : nO M < 10) : Met l yX8_addOrder (wB yX8_addOrder cX8_addOrder 2 (some .int)) (rmL 9 3 72) (va_Pc [.ref (ja 8 0)] (jB G d0 mi Rf ja M E)) (va_Qi (S := JE) (fun v9 u9 => v9 = nI (nO M) ∧ u9.1 8 0 = ja 8 0 ∧ u9.2 = (orE M E)) (fun u9 z9 => WJ G d0 Rf u9.1 ((orD M)) u9.2 z9.heap) (jA Rf)) 3 72 (jA Rf) := by
  refine st_N (own := RX8) (by decide +kernel) rfl (Nat.le_of_ble_eq_true rfl) ?_
  intro p e s m below meth c ls args Q hQ hC hr hlk hnm hl hP
  obtain ⟨hW, hX, hRf⟩ := hP
  have hK := hX.1
  have hx := hC.1
  have hb := hC.2.1
  have hl : lv_has ls 2 [(0, .ref (ja 8 0))] := hl
  obtain ⟨H, locs, hHe, hLe⟩ : ∃ (H : Heap) (locs : List Loc), H = s.heap ∧ locs = [] := ⟨_, _, rfl, rfl⟩
  rw [← hHe] at hW
  have hS : va_S (jA Rf) s.heap H locs := by rw [hHe, hLe]; exact va_S.rf
  suffices hgo : W p l e (rmL 9 3 72) s m args below meth c H locs 0 0 Q (F0 m 0 ls []) by
    rw [hHe, hLe] at hgo
    exact hgo
  clear hHe hLe
  have h10 := hW.cnt.O10
  refine lv_aload_n hx hb dX8_addOrder_0 rfl (lv_at hl 0 rfl) ?_
  refine r1_get hC hK.1 (hW.ob (show jV M 8 0 from rfl)) lay_X8 rfl 3 (by decide) fl_X8_26 (fun x hx => hx) (v := .ref (ja 10 2)) rfl dX8_addOrder_1 ?_
  refine jw_size hC hK hW.1 (i := 2) (Or.inl (by decide)) ml_X8_81 hl.1 (Nat.le_of_ble_eq_true rfl) ⟨Nat.le_of_ble_eq_true rfl, Nat.le_of_ble_eq_true rfl, (by show 0 ≤ 3; omega), (by show 0 ≤ 72; omega)⟩ dX8_addOrder_4 ?_
  refine top_i (y := nI (nO M)) rfl ?_
  refine lv_bipush (v := 10) hx hb dX8_addOrder_7 (by decide) ?_
  refine ln_lt (tgt := 22) (a := (nO M)) (b := 10) hx hb dX8_addOrder_9 (by decide) rfl rfl (by omega) (by omega) (fun c_1t => ?_) (fun c_1f => ?_)
  · have hsz0_ := hS.1
    refine r2_new hC hK hS lay_X3 tyX3 tyX3_ok cl_X8_131 is_X3 ini_X3 (ci := 3) rfl (fs := [.int 0, .null]) df_X3 (by show 0 + 1 ≤ 3; omega) (by show 0 + 2 ≤ 72; omega) dX8_addOrder_22 (fun q H1 hq hat hz1_ hb9 hS => ?_)
    have hnq : ∀ z : Nat, H.size ≤ z → jA Rf z := fun z hz hr9 => by have := hRf z hr9; omega
    have hWb := hW
    have hW := hWb.kept (H1 := H1) (fun z hz _ => hb9 z hz)
    refine lv_dup hx hb dX8_addOrder_25 rfl ?_
    refine lv_aload_n hx hb dX8_addOrder_26 rfl (lv_at hl 0 rfl) ?_
    refine r1_get hC hK.1 (hW.ob (show jV M 8 0 from rfl)) lay_X8 rfl 3 (by decide) fl_X8_26 (fun x hx => hx) (v := .ref (ja 10 2)) rfl dX8_addOrder_27 ?_
    refine jw_size hC hK hW.1 (i := 2) (Or.inl (by decide)) ml_X8_81 hl.1 (Nat.le_of_ble_eq_true rfl) ⟨Nat.le_of_ble_eq_true rfl, Nat.le_of_ble_eq_true rfl, (by show 0 + 1 ≤ 3; omega), (by show 0 + 2 ≤ 72; omega)⟩ dX8_addOrder_30 ?_
    refine top_i (y := nI (nO M)) rfl ?_
    have hA9 : ∀ z, rvA q H1.size z → jA Rf z := fun z h => hnq z (h.elim (fun e9 => by omega) (fun e9 => by omega))
    refine va_callv (run_I hC (cJ_X3_init l G d0 mi q H1.size (nI (nO M))) (As := [.int (nI (nO M))]) (rest := [.ref q]) rfl rfl ml_X8_133 im_X3_init ini_X3 cd_X3_init rfl na_X3_init xB_blind (fun U hU hW => ⟨by rw [hU], by rw [hU]; exact hat, hX.at hS (fun z h => hA9 z h) hU hW⟩) hl.1 (Nat.le_of_ble_eq_true rfl) ⟨Nat.le_of_ble_eq_true rfl, Nat.le_of_ble_eq_true rfl⟩ ⟨by show 0 + 1 + 1 ≤ 3; omega, by show 0 + 2 + 3 ≤ 72; omega⟩ rfl dX8_addOrder_33) hS (fun z _ h => hA9 z h) hA9 (fun q2 tt H2 locs2 ht_ al_ _ hB_ hz2_ oq_ hS => ?_)
    rw [ht_] at hB_
    obtain ⟨hq2, hB_, hB2_⟩ := hB_
    have hb9 : ∀ z : Nat, z < H.size → H2[z]? = H[z]? := fun z hz => (oq_ z (by omega) (fun h => h.elim (fun e9 => by omega) (fun e9 => by omega))).trans (hb9 z hz)
    have hW := hWb.kept (H1 := H2) (fun z hz _ => hb9 z hz)
    refine lv_astore_n (lv' := [(1, .ref q), (0, .ref (ja 8 0))]) hx hb dX8_addOrder_36 rfl hl (by decide) rfl (fun ls hl => ?_)
    refine lv_aload_n hx hb dX8_addOrder_37 rfl (lv_at hl 1 rfl) ?_
    refine r1_get hC hK.1 (hW.ob (show jV M 8 0 from rfl)) lay_X8 rfl 3 (by decide) fl_X8_26 (fun x hx => hx) (v := .ref (ja 10 2)) rfl dX8_addOrder_38 ?_
    refine lv_aload_n hx hb dX8_addOrder_41 rfl (lv_at hl 0 rfl) ?_
    have hVo9 : ¬ jV M 3 (nO M) := fun h => Nat.lt_irrefl _ (show nO M < nO M from h)
    have hnl9 : ¬ jLV M (7 + nO M) := (by unfold jLV; omega)
    refine jr_new2 hC hX hRf hWb (κ := 3) (n := nO M) (L0 := 2) (il := 7 + nO M) (by decide) (by unfold jo; omega) hq (hnq q (by omega)) (by omega) (hnq q2 (by omega)) hB2_ hnl9 hB_ hb9 hS hVo9 (Or.inl (by decide)) (by omega) (show nO M ≤ 30 by omega) ml_X8_92 hl.1 (Nat.le_of_ble_eq_true rfl) ⟨Nat.le_of_ble_eq_true rfl, Nat.le_of_ble_eq_true rfl⟩ ⟨by show 0 + 1 + 1 + 1 ≤ 3; omega, by show 0 + 2 + 3 + 67 ≤ 72; omega⟩ dX8_addOrder_42 (fun rz_ H locs w hS => ?_)
    have hW := WJ.addor hWb t4 w
    obtain ⟨ja9, hja9⟩ : ∃ z, z = (fun k' i' => if k' = 3 ∧ i' = nO M then q else if k' = 10 ∧ i' = 7 + nO M then q2 else ja k' i') := ⟨_, rfl⟩
    have hW : WJ G d0 Rf ja9 (orD M) (orE M E) H := by rw [hja9]; exact hW
    have hqn9 : ja9 3 (nO M) = q := by rw [hja9]; exact if_pos ⟨rfl, rfl⟩
    have h9_0 : ja9 8 0 = ja 8 0 := by rw [hja9]; exact (if_neg (fun z => absurd z.1 (by decide))).trans (if_neg (fun z => absurd z.1 (by decide)))
    have hl : lv_has ls 2 [(1, .ref (ja9 3 (nO M))), (0, .ref (ja9 8 0))] := by rw [hqn9, h9_0]; exact hl
    have h880 : ja9 8 0 = ja 8 0 := h9_0
    clear w hB_ hb9 hWb
    clear hja9 hqn9 h9_0
    obtain ⟨jaO, hjaO⟩ : ∃ z, z = ja := ⟨_, rfl⟩
    rw [← hjaO] at h880
    obtain ⟨ja, hja⟩ : ∃ z, z = ja9 := ⟨_, rfl⟩
    rw [← hja] at hl hW h880
    refine lv_pop hx hb dX8_addOrder_45 rfl ?_
    refine lv_aload_n hx hb dX8_addOrder_46 rfl (lv_at hl 0 rfl) ?_
    refine r1_get hC hK.1 (hW.ob (show jV (orD M) 3 (nO M) from (by show nO M < nO (orD M); have k9 : nO (orD M) = nO M + 1 := or_n (by omega); omega))) lay_X3 rfl 0 (by decide) fl_X8_135 (fun x hx => hx) (v := .int (nI (nO M))) rfl dX8_addOrder_47 ?_
    subst hQ
    exact rt_qi (ja, (orE M E)) hx hb hr hlk hS ⟨rfl, by rw [← hjaO]; exact h880, rfl⟩ (fun t9 ht9 _ => by show WJ G d0 Rf _ _ _ t9.heap; rw [ht9]; exact hW) (by show 0 + 1 + 1 + 1 ≤ 3; omega) (by show 0 + 2 + 3 + 67 ≤ 72; omega) dX8_addOrder_50
  · omega
set_option maxHeartbeats 4000000 in
set_option maxRecDepth 100000 in
theorem cJ_X8_addOrderX (l : Launch) (G : gG) (d0 mi : Nat) (Rf : Nat → Prop) (ja : Nat → Nat → Nat) (M : MS) (E : ES) (hno : nO M = 10) (hl9 : l.stackTraces = false) : vx_Met l yX8_addOrder (wB yX8_addOrder cX8_addOrder 2 (some .int)) (rmL 9 1 6) (va_Pc [.ref (ja 8 0)] (jT G d0 mi Rf ja M E)) xQ (xN xISE) 1 6 (jA Rf) := by
  refine st_X (own := RX8) (by decide +kernel) rfl (Nat.le_of_ble_eq_true rfl) ?_
  intro p e s m below meth c ls args Q hQ hC hr hlk hex hl hP
  obtain ⟨⟨hW, hX, hRf⟩, hT9⟩ := hP
  have hK := hX.1
  have hx := hC.1
  have hb := hC.2.1
  have hl : lv_has ls 2 [(0, .ref (ja 8 0))] := hl
  have hS : va_S (jA Rf) s.heap s.heap [] := va_S.rf
  refine lv_aload_n hx hb dX8_addOrder_0 rfl (lv_at hl 0 rfl) ?_
  refine r1_get hC hK.1 (hW.ob (show jV M 8 0 from rfl)) lay_X8 rfl 3 (by decide) fl_X8_26 (fun x hx => hx) (v := .ref (ja 10 2)) rfl dX8_addOrder_1 ?_
  refine jw_size hC hK hW.1 (i := 2) (Or.inl (by decide)) ml_X8_81 hl.1 (Nat.le_of_ble_eq_true rfl) ⟨Nat.le_of_ble_eq_true rfl, Nat.le_of_ble_eq_true rfl, (by show 0 ≤ 1; omega), (by show 0 ≤ 6; omega)⟩ dX8_addOrder_4 ?_
  refine top_i (y := nI (nO M)) rfl ?_
  refine lv_bipush (v := 10) hx hb dX8_addOrder_7 (by decide) ?_
  refine ln_lt (tgt := 22) (a := (nO M)) (b := 10) hx hb dX8_addOrder_9 (by decide) rfl rfl (by omega) (by omega) (fun c_1t => ?_) (fun c_1f => ?_)
  · omega
  · exact jx_ISE hC hl9 hT9 hex hlk hl.1 (text := "no more orders") (by decide) ⟨Nat.le_of_ble_eq_true rfl, Nat.le_of_ble_eq_true rfl, Nat.le_refl _, Nat.le_refl _⟩ (by decide) hQ dX8_addOrder_12 dX8_addOrder_15 dX8_addOrder_16 dX8_addOrder_18 dX8_addOrder_21
theorem nI_sub1 (k : Nat) : nI (k + 1) - 1 = nI k := by have h := nI_dec k; rw [← h, Int32.sub_eq_add_neg]; rfl
set_option maxHeartbeats 4000000 in
set_option maxRecDepth 100000 in
theorem cJ_X8_addLine (l : Launch) (G : gG) (d0 mi : Nat) (Rf : Nat → Prop) (ja : Nat → Nat → Nat) (M : MS) (E : ES) (o : Nat) (g : Nat) (a : Nat) (h1 : o < nO M) (hg : g < 6) (ha : 0 < a) (hb9_ : a ≤ 50) (t4 : nL M o < 3) : Met l yX8_addLine (wB yX8_addLine cX8_addLine 5 (some .int)) (rmL 9 2 71) (va_Pc [.ref (ja 8 0), .int (nI o), .int (nI g), .int (nI a)] (jB G d0 mi Rf ja M E)) (va_Qi (S := JE) (fun v9 u9 => v9 = nI (nL M o) ∧ u9.1 8 0 = ja 8 0 ∧ u9.2 = (liE M E o)) (fun u9 z9 => WJ G d0 Rf u9.1 ((liD M o (nI g) (nI a))) u9.2 z9.heap) (jA Rf)) 2 71 (jA Rf) := by
  refine st_N (own := RX8) (by decide +kernel) rfl (Nat.le_of_ble_eq_true rfl) ?_
  intro p e s m below meth c ls args Q hQ hC hr hlk hnm hl hP
  obtain ⟨hW, hX, hRf⟩ := hP
  have hK := hX.1
  have hx := hC.1
  have hb := hC.2.1
  have hl : lv_has ls 5 [(0, .ref (ja 8 0)), (1, .int (nI o)), (2, .int (nI g)), (3, .int (nI a))] := hl
  obtain ⟨H, locs, hHe, hLe⟩ : ∃ (H : Heap) (locs : List Loc), H = s.heap ∧ locs = [] := ⟨_, _, rfl, rfl⟩
  rw [← hHe] at hW
  have hS : va_S (jA Rf) s.heap H locs := by rw [hHe, hLe]; exact va_S.rf
  suffices hgo : W p l e (rmL 9 2 71) s m args below meth c H locs 0 0 Q (F0 m 0 ls []) by
    rw [hHe, hLe] at hgo
    exact hgo
  clear hHe hLe
  have h10 := hW.cnt.O10
  refine lv_aload_n hx hb dX8_addLine_0 rfl (lv_at hl 0 rfl) ?_
  refine lv_iload_n hx hb dX8_addLine_1 rfl (lv_at hl 1 rfl) ?_
  refine cl_p (run_V hC (cJ_X8_findOrder l G d0 mi Rf ja M E o (by omega)) (As := [.int (nI o)]) (rest := []) rfl rfl ml_X8_136 im_X8_findOrder se_X8_findOrder ini_X8 cd_X8_findOrder ⟨rfl, na_X8_findOrder⟩ jB_blind (hW.recv hK (show jV M 8 0 from rfl) rfl) (jB_at hX hRf hW hS) hl.1 (Nat.le_of_ble_eq_true rfl) ⟨Nat.le_of_ble_eq_true rfl, Nat.le_of_ble_eq_true rfl⟩ ⟨by show 0 + 0 ≤ 2; omega, by show 0 + 0 ≤ 71; omega⟩ rfl dX8_addLine_2) ?_
  refine lv_astore (lv' := [(4, .ref (ja 3 o)), (0, .ref (ja 8 0)), (1, .int (nI o)), (2, .int (nI g)), (3, .int (nI a))]) hx hb dX8_addLine_5 hl (by decide) rfl (fun ls hl => ?_)
  refine lv_iload_n hx hb dX8_addLine_7 rfl (lv_at hl 3 rfl) ?_
  refine cl_pv (run_S hC (cJ_X8_requireGood l g (by omega)) (As := [.int (nI g)]) (rest := []) rfl rfl ml_X8_99 sm_X8_requireGood ini_X8 cd_X8_requireGood na_X8_requireGood tB_blind (fun _ _ _ => trivial) hl.1 (Nat.le_of_ble_eq_true rfl) ⟨Nat.le_of_ble_eq_true rfl, Nat.le_of_ble_eq_true rfl⟩ ⟨by show 0 + 0 ≤ 2; omega, by show 0 + 0 ≤ 71; omega⟩ rfl dX8_addLine_8) ?_
  refine lv_iload_n hx hb dX8_addLine_11 rfl (lv_at hl 4 rfl) ?_
  refine lv_iconst (v := 1) hx hb dX8_addLine_12 (by decide) ?_
  refine lv_bipush (v := 50) hx hb dX8_addLine_13 (by decide) ?_
  refine cl_pv (run_S hC (cJ_X8_requireRange l (nI a) 1 50 (nI_one ha (by omega)) ((nI_rg (j := a) (n := 50) (by omega) (by decide)).2)) (As := [.int (nI a), .int 1, .int 50]) (rest := []) rfl rfl ml_X8_102 sm_X8_requireRange ini_X8 cd_X8_requireRange na_X8_requireRange tB_blind (fun _ _ _ => trivial) hl.1 (Nat.le_of_ble_eq_true rfl) ⟨Nat.le_of_ble_eq_true rfl, Nat.le_of_ble_eq_true rfl⟩ ⟨by show 0 + 0 ≤ 2; omega, by show 0 + 0 ≤ 71; omega⟩ rfl dX8_addLine_15) ?_
  refine lv_aload hx hb dX8_addLine_18 (lv_at hl 0 rfl) ?_
  refine r1_get hC hK.1 (hW.ob (show jV M 3 o from h1)) lay_X3 rfl 1 (by decide) fl_X8_140 (fun x hx => hx) (v := .ref (ja 10 (7 + o))) rfl dX8_addLine_20 ?_
  refine jw_size hC hK hW.1 (i := (7 + o)) (by unfold jLV; omega) ml_X8_81 hl.1 (Nat.le_of_ble_eq_true rfl) ⟨Nat.le_of_ble_eq_true rfl, Nat.le_of_ble_eq_true rfl, (by show 0 ≤ 2; omega), (by show 0 ≤ 71; omega)⟩ dX8_addLine_23 ?_
  refine top_i (y := nI (nL M o)) (congrArg nI (jn_7 (by have := hW.cnt.O10; omega))) ?_
  refine lv_iconst (v := 3) hx hb dX8_addLine_26 (by decide) ?_
  refine ln_lt (tgt := 40) (a := (nL M o)) (b := 3) hx hb dX8_addLine_27 (by decide) rfl rfl (by omega) (by omega) (fun c_1t => ?_) (fun c_1f => ?_)
  · refine lv_aload hx hb dX8_addLine_40 (lv_at hl 0 rfl) ?_
    refine r1_get hC hK.1 (hW.ob (show jV M 3 o from h1)) lay_X3 rfl 1 (by decide) fl_X8_140 (fun x hx => hx) (v := .ref (ja 10 (7 + o))) rfl dX8_addLine_42 ?_
    have hsz0_ := hS.1
    refine r2_new hC hK hS lay_X2 tyX2 tyX2_ok cl_X8_145 is_X2 ini_X2 (ci := 2) rfl (fs := [.null, .int 0, .int 0, .null]) df_X2 (by show 0 + 1 ≤ 2; omega) (by show 0 + 4 ≤ 71; omega) dX8_addLine_45 (fun q H1 hq hat hz1_ hb9 hS => ?_)
    have hnq : ∀ z : Nat, H.size ≤ z → jA Rf z := fun z hz hr9 => by have := hRf z hr9; omega
    have hWb := hW
    have hW := hWb.kept (H1 := H1) (fun z hz _ => hb9 z hz)
    refine lv_dup hx hb dX8_addLine_48 rfl ?_
    refine lv_aload hx hb dX8_addLine_49 (lv_at hl 0 rfl) ?_
    refine lv_iload_n hx hb dX8_addLine_51 rfl (lv_at hl 3 rfl) ?_
    refine lv_iload_n hx hb dX8_addLine_52 rfl (lv_at hl 4 rfl) ?_
    have hA9 : ∀ z, rvA q H1.size z → jA Rf z := fun z h => hnq z (h.elim (fun e9 => by omega) (fun e9 => by omega))
    refine va_callv (run_I hC (cJ_X2_init l G q H1.size (ja 3 o) (nI g) (nI a)) (As := [.ref (ja 3 o), .int (nI g), .int (nI a)]) (rest := [.ref q, .ref (ja 10 (7 + o))]) rfl rfl ml_X8_147 im_X2_init ini_X2 cd_X2_init rfl na_X2_init vB_blind (fun U hU hW => ⟨by rw [hU], by rw [hU]; exact hat, hK.warm hW⟩) hl.1 (Nat.le_of_ble_eq_true rfl) ⟨Nat.le_of_ble_eq_true rfl, Nat.le_of_ble_eq_true rfl⟩ ⟨by show 0 + 1 + 0 ≤ 2; omega, by show 0 + 4 + 0 ≤ 71; omega⟩ rfl dX8_addLine_53) hS (fun z _ h => hA9 z h) hA9 (fun _ tt H2 locs2 ht_ al_ _ hB_ hz2_ oq_ hS => ?_)
    rw [ht_] at hB_
    have hb9 : ∀ z : Nat, z < H.size → H2[z]? = H[z]? := fun z hz => (oq_ z (by omega) (fun h => h.elim (fun e9 => by omega) (fun e9 => by omega))).trans (hb9 z hz)
    have hW := hWb.kept (H1 := H2) (fun z hz _ => hb9 z hz)
    have hVo9 : ¬ jV M 2 (3 * o + nL M o) := (fun h => by have h9 : VL M (3 * o + nL M o) = true := h; unfold VL at h9; rw [Bool.and_eq_true, decide_eq_true_eq, decide_eq_true_eq, show (3 * o + nL M o) / 3 = o by omega] at h9; omega)
    refine jr_new1 hC hX hRf hWb (κ := 2) (n := 3 * o + nL M o) (L0 := (7 + o)) (by decide) (by unfold jo; omega) hq (hnq q (by omega)) hB_ hb9 hS hVo9 (by unfold jLV; omega) (by omega) (by rw [jn_7 (by omega)]; omega) ml_X8_92 hl.1 (Nat.le_of_ble_eq_true rfl) ⟨Nat.le_of_ble_eq_true rfl, Nat.le_of_ble_eq_true rfl⟩ ⟨by show 0 + 1 + 1 ≤ 2; omega, by show 0 + 4 + 67 ≤ 71; omega⟩ dX8_addLine_56 (fun rz_ H locs w hS => ?_)
    have hW := WJ.addli (nI g) (nI a) o hWb h1 t4 w
    obtain ⟨ja9, hja9⟩ : ∃ z, z = (fun k' i' => if k' = 2 ∧ i' = 3 * o + nL M o then q else ja k' i') := ⟨_, rfl⟩
    have hW : WJ G d0 Rf ja9 (liD M o (nI g) (nI a)) (liE M E o) H := by rw [hja9]; exact hW
    have h9_4 : ja9 3 o = ja 3 o := by rw [hja9]; exact if_neg (fun z => absurd z.1 (by decide))
    have h9_0 : ja9 8 0 = ja 8 0 := by rw [hja9]; exact if_neg (fun z => absurd z.1 (by decide))
    have hl : lv_has ls 5 [(4, .ref (ja9 3 o)), (0, .ref (ja9 8 0)), (1, .int (nI o)), (2, .int (nI g)), (3, .int (nI a))] := by rw [h9_4, h9_0]; exact hl
    have h880 : ja9 8 0 = ja 8 0 := h9_0
    clear w hB_ hb9 hWb
    clear hja9 h9_4 h9_0
    obtain ⟨jaO, hjaO⟩ : ∃ z, z = ja := ⟨_, rfl⟩
    rw [← hjaO] at h880
    obtain ⟨ja, hja⟩ : ∃ z, z = ja9 := ⟨_, rfl⟩
    rw [← hja] at hl hW h880
    refine lv_pop hx hb dX8_addLine_59 rfl ?_
    refine lv_aload hx hb dX8_addLine_60 (lv_at hl 0 rfl) ?_
    refine r1_get hC hK.1 (hW.ob (show jV (liD M o (nI g) (nI a)) 3 o from h1)) lay_X3 rfl 1 (by decide) fl_X8_140 (fun x hx => hx) (v := .ref (ja 10 (7 + o))) rfl dX8_addLine_62 ?_
    refine jw_size hC hK hW.1 (i := (7 + o)) (show jLV M (7 + o) from by unfold jLV; omega) ml_X8_81 hl.1 (Nat.le_of_ble_eq_true rfl) ⟨Nat.le_of_ble_eq_true rfl, Nat.le_of_ble_eq_true rfl, (by show 0 + 1 + 1 ≤ 2; omega), (by show 0 + 4 + 67 ≤ 71; omega)⟩ dX8_addLine_65 ?_
    refine top_i (y := nI (nL M o + 1)) (congrArg nI ((jn_7 (by omega)).trans (li_n (by omega)))) ?_
    refine lv_iconst (v := 1) hx hb dX8_addLine_68 (by decide) ?_
    refine lv_isub hx hb dX8_addLine_69 ?_
    subst hQ
    exact rt_qi (ja, (liE M E o)) hx hb hr hlk hS ⟨nI_sub1 _, by rw [← hjaO]; exact h880, rfl⟩ (fun t9 ht9 _ => by show WJ G d0 Rf _ _ _ t9.heap; rw [ht9]; exact hW) (by show 0 + 1 + 1 ≤ 2; omega) (by show 0 + 4 + 67 ≤ 71; omega) dX8_addLine_70
  · omega
set_option maxHeartbeats 4000000 in
set_option maxRecDepth 100000 in
theorem cJ_X8_addLineX1 (l : Launch) (G : gG) (d0 mi : Nat) (Rf : Nat → Prop) (ja : Nat → Nat → Nat) (M : MS) (E : ES) (x : Int32) (y : Int32) (z : Int32) (hno : inB x (nI (nO M)) = false) (hl9 : l.stackTraces = false) : vx_Met l yX8_addLine (wB yX8_addLine cX8_addLine 5 (some .int)) (rmL 9 1 6) (va_Pc [.ref (ja 8 0), .int x, .int y, .int z] (jT G d0 mi Rf ja M E)) xQ (xN xIOE) 1 6 (jA Rf) := by
  refine st_X (own := RX8) (by decide +kernel) rfl (Nat.le_of_ble_eq_true rfl) ?_
  intro p e s m below meth c ls args Q hQ hC hr hlk hex hl hP
  obtain ⟨⟨hW, hX, hRf⟩, hT9⟩ := hP
  have hK := hX.1
  have hx := hC.1
  have hb := hC.2.1
  have hl : lv_has ls 5 [(0, .ref (ja 8 0)), (1, .int x), (2, .int y), (3, .int z)] := hl
  have hS : va_S (jA Rf) s.heap s.heap [] := va_S.rf
  refine lv_aload_n hx hb dX8_addLine_0 rfl (lv_at hl 0 rfl) ?_
  refine lv_iload_n hx hb dX8_addLine_1 rfl (lv_at hl 1 rfl) ?_
  exact jx_call (run_VX hC (cJ_X8_findOrderX l G d0 mi Rf ja M E x (by assumption) hl9) (As := [.int x]) (rest := []) rfl rfl ml_X8_136 im_X8_findOrder se_X8_findOrder ini_X8 cd_X8_findOrder ⟨rfl, na_X8_findOrder⟩ jT_blind (hW.recv hK (show jV M 8 0 from rfl) rfl) (jT_at hX hT9 hRf hW hS) hl.1 (Nat.le_of_ble_eq_true rfl) ⟨Nat.le_of_ble_eq_true rfl, Nat.le_of_ble_eq_true rfl⟩ ⟨Nat.le_refl _, Nat.le_refl _⟩ rfl dX8_addLine_2) hQ hex hlk
set_option maxHeartbeats 4000000 in
set_option maxRecDepth 100000 in
theorem cJ_X8_addLineX2 (l : Launch) (G : gG) (d0 mi : Nat) (Rf : Nat → Prop) (ja : Nat → Nat → Nat) (M : MS) (E : ES) (o : Nat) (y : Int32) (z : Int32) (h1 : o < nO M) (hno : inB y 6 = false) (hl9 : l.stackTraces = false) : vx_Met l yX8_addLine (wB yX8_addLine cX8_addLine 5 (some .int)) (rmL 9 1 6) (va_Pc [.ref (ja 8 0), .int (nI o), .int y, .int z] (jT G d0 mi Rf ja M E)) xQ (xN xIAE) 1 6 (jA Rf) := by
  refine st_X (own := RX8) (by decide +kernel) rfl (Nat.le_of_ble_eq_true rfl) ?_
  intro p e s m below meth c ls args Q hQ hC hr hlk hex hl hP
  obtain ⟨⟨hW, hX, hRf⟩, hT9⟩ := hP
  have hK := hX.1
  have hx := hC.1
  have hb := hC.2.1
  have hl : lv_has ls 5 [(0, .ref (ja 8 0)), (1, .int (nI o)), (2, .int y), (3, .int z)] := hl
  have hS : va_S (jA Rf) s.heap s.heap [] := va_S.rf
  refine lv_aload_n hx hb dX8_addLine_0 rfl (lv_at hl 0 rfl) ?_
  refine lv_iload_n hx hb dX8_addLine_1 rfl (lv_at hl 1 rfl) ?_
  refine cl_p (run_V hC (cJ_X8_findOrder l G d0 mi Rf ja M E o (by omega)) (As := [.int (nI o)]) (rest := []) rfl rfl ml_X8_136 im_X8_findOrder se_X8_findOrder ini_X8 cd_X8_findOrder ⟨rfl, na_X8_findOrder⟩ jB_blind (hW.recv hK (show jV M 8 0 from rfl) rfl) (jB_at hX hRf hW hS) hl.1 (Nat.le_of_ble_eq_true rfl) ⟨Nat.le_of_ble_eq_true rfl, Nat.le_of_ble_eq_true rfl⟩ ⟨by show 0 + 0 ≤ 1; omega, by show 0 + 0 ≤ 6; omega⟩ rfl dX8_addLine_2) ?_
  refine lv_astore (lv' := [(4, .ref (ja 3 o)), (0, .ref (ja 8 0)), (1, .int (nI o)), (2, .int y), (3, .int z)]) hx hb dX8_addLine_5 hl (by decide) rfl (fun ls hl => ?_)
  refine lv_iload_n hx hb dX8_addLine_7 rfl (lv_at hl 3 rfl) ?_
  exact jx_call (run_SX hC (cJ_X8_requireGoodX l G d0 mi Rf ja M E y (by assumption) hl9) (As := [.int y]) (rest := []) rfl rfl ml_X8_99 sm_X8_requireGood ini_X8 cd_X8_requireGood na_X8_requireGood jT_blind (jT_at hX hT9 hRf hW hS) hl.1 (Nat.le_of_ble_eq_true rfl) ⟨Nat.le_of_ble_eq_true rfl, Nat.le_of_ble_eq_true rfl⟩ ⟨Nat.le_refl _, Nat.le_refl _⟩ rfl dX8_addLine_8) hQ hex hlk
set_option maxHeartbeats 4000000 in
set_option maxRecDepth 100000 in
theorem cJ_X8_addLineX3 (l : Launch) (G : gG) (d0 mi : Nat) (Rf : Nat → Prop) (ja : Nat → Nat → Nat) (M : MS) (E : ES) (o : Nat) (g : Nat) (z : Int32) (h1 : o < nO M) (hg : g < 6) (hno : ¬ (¬ z < 1 ∧ z ≤ 50)) (hl9 : l.stackTraces = false) : vx_Met l yX8_addLine (wB yX8_addLine cX8_addLine 5 (some .int)) (rmL 9 1 6) (va_Pc [.ref (ja 8 0), .int (nI o), .int (nI g), .int z] (jT G d0 mi Rf ja M E)) xQ (xN xIAE) 1 6 (jA Rf) := by
  refine st_X (own := RX8) (by decide +kernel) rfl (Nat.le_of_ble_eq_true rfl) ?_
  intro p e s m below meth c ls args Q hQ hC hr hlk hex hl hP
  obtain ⟨⟨hW, hX, hRf⟩, hT9⟩ := hP
  have hK := hX.1
  have hx := hC.1
  have hb := hC.2.1
  have hl : lv_has ls 5 [(0, .ref (ja 8 0)), (1, .int (nI o)), (2, .int (nI g)), (3, .int z)] := hl
  have hS : va_S (jA Rf) s.heap s.heap [] := va_S.rf
  refine lv_aload_n hx hb dX8_addLine_0 rfl (lv_at hl 0 rfl) ?_
  refine lv_iload_n hx hb dX8_addLine_1 rfl (lv_at hl 1 rfl) ?_
  refine cl_p (run_V hC (cJ_X8_findOrder l G d0 mi Rf ja M E o (by omega)) (As := [.int (nI o)]) (rest := []) rfl rfl ml_X8_136 im_X8_findOrder se_X8_findOrder ini_X8 cd_X8_findOrder ⟨rfl, na_X8_findOrder⟩ jB_blind (hW.recv hK (show jV M 8 0 from rfl) rfl) (jB_at hX hRf hW hS) hl.1 (Nat.le_of_ble_eq_true rfl) ⟨Nat.le_of_ble_eq_true rfl, Nat.le_of_ble_eq_true rfl⟩ ⟨by show 0 + 0 ≤ 1; omega, by show 0 + 0 ≤ 6; omega⟩ rfl dX8_addLine_2) ?_
  refine lv_astore (lv' := [(4, .ref (ja 3 o)), (0, .ref (ja 8 0)), (1, .int (nI o)), (2, .int (nI g)), (3, .int z)]) hx hb dX8_addLine_5 hl (by decide) rfl (fun ls hl => ?_)
  refine lv_iload_n hx hb dX8_addLine_7 rfl (lv_at hl 3 rfl) ?_
  refine cl_pv (run_S hC (cJ_X8_requireGood l g (by omega)) (As := [.int (nI g)]) (rest := []) rfl rfl ml_X8_99 sm_X8_requireGood ini_X8 cd_X8_requireGood na_X8_requireGood tB_blind (fun _ _ _ => trivial) hl.1 (Nat.le_of_ble_eq_true rfl) ⟨Nat.le_of_ble_eq_true rfl, Nat.le_of_ble_eq_true rfl⟩ ⟨by show 0 + 0 ≤ 1; omega, by show 0 + 0 ≤ 6; omega⟩ rfl dX8_addLine_8) ?_
  refine lv_iload_n hx hb dX8_addLine_11 rfl (lv_at hl 4 rfl) ?_
  refine lv_iconst (v := 1) hx hb dX8_addLine_12 (by decide) ?_
  refine lv_bipush (v := 50) hx hb dX8_addLine_13 (by decide) ?_
  exact jx_call (run_SX hC (cJ_X8_requireRangeX l G d0 mi Rf ja M E z 1 50 hno hl9) (As := [.int z, .int 1, .int 50]) (rest := []) rfl rfl ml_X8_102 sm_X8_requireRange ini_X8 cd_X8_requireRange na_X8_requireRange jT_blind (jT_at hX hT9 hRf hW hS) hl.1 (Nat.le_of_ble_eq_true rfl) ⟨Nat.le_of_ble_eq_true rfl, Nat.le_of_ble_eq_true rfl⟩ ⟨Nat.le_refl _, Nat.le_refl _⟩ rfl dX8_addLine_15) hQ hex hlk
set_option maxHeartbeats 4000000 in
set_option maxRecDepth 100000 in
theorem cJ_X8_addLineX4 (l : Launch) (G : gG) (d0 mi : Nat) (Rf : Nat → Prop) (ja : Nat → Nat → Nat) (M : MS) (E : ES) (o : Nat) (g : Nat) (a : Nat) (h1 : o < nO M) (hg : g < 6) (ha : 0 < a) (hb9_ : a ≤ 50) (hno : ¬ nL M o < 3) (hl9 : l.stackTraces = false) : vx_Met l yX8_addLine (wB yX8_addLine cX8_addLine 5 (some .int)) (rmL 9 1 6) (va_Pc [.ref (ja 8 0), .int (nI o), .int (nI g), .int (nI a)] (jT G d0 mi Rf ja M E)) xQ (xN xISE) 1 6 (jA Rf) := by
  refine st_X (own := RX8) (by decide +kernel) rfl (Nat.le_of_ble_eq_true rfl) ?_
  intro p e s m below meth c ls args Q hQ hC hr hlk hex hl hP
  obtain ⟨⟨hW, hX, hRf⟩, hT9⟩ := hP
  have hK := hX.1
  have hx := hC.1
  have hb := hC.2.1
  have hl : lv_has ls 5 [(0, .ref (ja 8 0)), (1, .int (nI o)), (2, .int (nI g)), (3, .int (nI a))] := hl
  have hS : va_S (jA Rf) s.heap s.heap [] := va_S.rf
  have h10 := hW.cnt.O10
  have hL3 := hW.cnt.L3 (o := o) (by omega)
  refine lv_aload_n hx hb dX8_addLine_0 rfl (lv_at hl 0 rfl) ?_
  refine lv_iload_n hx hb dX8_addLine_1 rfl (lv_at hl 1 rfl) ?_
  refine cl_p (run_V hC (cJ_X8_findOrder l G d0 mi Rf ja M E o (by omega)) (As := [.int (nI o)]) (rest := []) rfl rfl ml_X8_136 im_X8_findOrder se_X8_findOrder ini_X8 cd_X8_findOrder ⟨rfl, na_X8_findOrder⟩ jB_blind (hW.recv hK (show jV M 8 0 from rfl) rfl) (jB_at hX hRf hW hS) hl.1 (Nat.le_of_ble_eq_true rfl) ⟨Nat.le_of_ble_eq_true rfl, Nat.le_of_ble_eq_true rfl⟩ ⟨by show 0 + 0 ≤ 1; omega, by show 0 + 0 ≤ 6; omega⟩ rfl dX8_addLine_2) ?_
  refine lv_astore (lv' := [(4, .ref (ja 3 o)), (0, .ref (ja 8 0)), (1, .int (nI o)), (2, .int (nI g)), (3, .int (nI a))]) hx hb dX8_addLine_5 hl (by decide) rfl (fun ls hl => ?_)
  refine lv_iload_n hx hb dX8_addLine_7 rfl (lv_at hl 3 rfl) ?_
  refine cl_pv (run_S hC (cJ_X8_requireGood l g (by omega)) (As := [.int (nI g)]) (rest := []) rfl rfl ml_X8_99 sm_X8_requireGood ini_X8 cd_X8_requireGood na_X8_requireGood tB_blind (fun _ _ _ => trivial) hl.1 (Nat.le_of_ble_eq_true rfl) ⟨Nat.le_of_ble_eq_true rfl, Nat.le_of_ble_eq_true rfl⟩ ⟨by show 0 + 0 ≤ 1; omega, by show 0 + 0 ≤ 6; omega⟩ rfl dX8_addLine_8) ?_
  refine lv_iload_n hx hb dX8_addLine_11 rfl (lv_at hl 4 rfl) ?_
  refine lv_iconst (v := 1) hx hb dX8_addLine_12 (by decide) ?_
  refine lv_bipush (v := 50) hx hb dX8_addLine_13 (by decide) ?_
  refine cl_pv (run_S hC (cJ_X8_requireRange l (nI a) 1 50 (nI_one ha (by omega)) ((nI_rg (j := a) (n := 50) (by omega) (by decide)).2)) (As := [.int (nI a), .int 1, .int 50]) (rest := []) rfl rfl ml_X8_102 sm_X8_requireRange ini_X8 cd_X8_requireRange na_X8_requireRange tB_blind (fun _ _ _ => trivial) hl.1 (Nat.le_of_ble_eq_true rfl) ⟨Nat.le_of_ble_eq_true rfl, Nat.le_of_ble_eq_true rfl⟩ ⟨by show 0 + 0 ≤ 1; omega, by show 0 + 0 ≤ 6; omega⟩ rfl dX8_addLine_15) ?_
  refine lv_aload hx hb dX8_addLine_18 (lv_at hl 0 rfl) ?_
  refine r1_get hC hK.1 (hW.ob (show jV M 3 o from h1)) lay_X3 rfl 1 (by decide) fl_X8_140 (fun x hx => hx) (v := .ref (ja 10 (7 + o))) rfl dX8_addLine_20 ?_
  refine jw_size hC hK hW.1 (i := (7 + o)) (by unfold jLV; omega) ml_X8_81 hl.1 (Nat.le_of_ble_eq_true rfl) ⟨Nat.le_of_ble_eq_true rfl, Nat.le_of_ble_eq_true rfl, (by show 0 ≤ 1; omega), (by show 0 ≤ 6; omega)⟩ dX8_addLine_23 ?_
  refine top_i (y := nI (nL M o)) (congrArg nI (jn_7 (by have := hW.cnt.O10; omega))) ?_
  refine lv_iconst (v := 3) hx hb dX8_addLine_26 (by decide) ?_
  refine ln_lt (tgt := 40) (a := (nL M o)) (b := 3) hx hb dX8_addLine_27 (by decide) rfl rfl (by omega) (by omega) (fun c_1t => ?_) (fun c_1f => ?_)
  · exact absurd c_1t hno
  · exact jx_ISE hC hl9 hT9 hex hlk hl.1 (text := "the order has all its lines") (by decide) ⟨Nat.le_of_ble_eq_true rfl, Nat.le_of_ble_eq_true rfl, Nat.le_refl _, Nat.le_refl _⟩ (by decide) hQ dX8_addLine_30 dX8_addLine_33 dX8_addLine_34 dX8_addLine_36 dX8_addLine_39
