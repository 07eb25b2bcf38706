/-! CASES OF THE LAW -/
section LWC
variable {p : Program} {l : Launch} {e : Env} {s : State} {m : MethodId} {below : List Frame} {meth : Method} {c : Code} {H : Heap} {locs : List Loc} {cells slots : Nat} {Q : State → Prop}
variable {ls : Array Slot} {G : gG} {d0 mi : Nat} {ma : Nat → Nat} {oa x0 b L k : Nat} {xs : Nat → Int32} {M : MS} {E : ES} {ja : Nat → Nat → Nat} {v : Int64}
set_option maxHeartbeats 4000000 in
set_option maxRecDepth 100000 in
theorem lc_wall (hC : CallFix p m c code 7 s #[Value.ref b] BIG RL) (hF : LF l s G d0 mi ma oa b L xs) (hi : 4 * k + 4 ≤ L) (hW : LW s G d0 ma oa x0 M M E ja v H locs) (hI : INV k M) (hCE : CE M E) (hLB : LB cells slots k M) (hl : lv_has ls 7 [(0, .ref b), (1, .ref x0), (2, .ref (ma 0)), (3, .ref oa), (4, .int (nI (4 * k)))])
    (kk : ∀ (M1 : MS) (E1 : ES) (ja1 : Nat → Nat → Nat) (v1 : Int64) (H1 : Heap) (locs1 : List Loc) (cells1 slots1 : Nat) (ls1 : Array Slot), LW s G d0 ma oa x0 M1 M1 E1 ja1 v1 H1 locs1 → INV (k + 1) M1 → CE M1 E1 → LB cells1 slots1 (k + 1) M1 → lv_has ls1 7 [(0, .ref b), (1, .ref x0), (2, .ref (ma 0)), (3, .ref oa), (4, .int (nI (4 * k)))] → W p l e room_1 s m #[Value.ref b] below meth c H1 locs1 cells1 slots1 Q (F0 m 1981 ls1 [])) : W p l e room_1 s m #[Value.ref b] below meth c H locs cells slots Q (F0 m 188 ls []) := by
  have hx := hC.1
  have hb := hC.2.1
  have hK := hF.1.1
  obtain ⟨z0, hz0⟩ : ∃ z, z = ja 8 0 := ⟨_, rfl⟩
  have hx0 : x0 = ja 8 0 := hW.2.1.symm
  subst hx0
  have hL := hF.2.2.2.2.2.1
  have hmI := hF.2.2.2.2.2.2.2.1
  have hl9 := hF.2.2.2.2.2.2.1
  have hRo : lR s ma oa oa := Or.inr (Or.inr rfl)
  have hk9 : k ≤ 511 := by omega
  refine lv_aload_n hx hb dW_188 rfl (lv_at hl 1 rfl) ?_
  refine lw_arg (k := 1) hC hF hW.2.2.2.2 (by omega) (lv_sub hl [0, 4] rfl) (by decide) dW_189 dW_190 dW_192 dW_193 dW_194 ?_
  have hrw := rw_wall M (xs (4 * k + 1))
  have hLB1 : LB (cells + 1) (slots + 6) (k + 1) (wallF M (xs (4 * k + 1))) := hLB.up (mc := 1) (ms := 6) hrw.2.1 hrw.2.2 (by omega) (by omega)
  have hcs : cells + 1 ≤ 601024 ∧ slots + 6 ≤ 7293034 := (hLB.up (M' := M) (mc := 1) (ms := 6) rfl rfl (by omega) (by omega)).room hI (by omega)
  refine lw_ww hF hW (run_SH hC (lL_wall l G d0 mi (lR s ma oa) ja M E oa v (xs (4 * k + 1)) k hI hCE (by omega) hRo hl9) (As := [.ref (ja 8 0), .int (xs (4 * k + 1))]) (rest := []) rfl rfl ml_L_109 sm_L_wall ini_L cw_L_wall (show nArgs yL_wall 2 from ⟨by decide, by decide, by decide +kernel⟩) lJ_blind (LW.pre hF hW) hl.1 (Nat.le_of_ble_eq_true rfl) ⟨Nat.le_of_ble_eq_true rfl, Nat.le_of_ble_eq_true rfl⟩ ⟨hcs.1, hcs.2⟩ rfl dW_195) (fun E1 ja1 H locs hW hCE1 hI1 => ?_)
  refine lv_istore (lv' := [(5, .int (wallT M (xs (4 * k + 1)))), (0, .ref b), (1, .ref (ja 8 0)), (2, .ref (ma 0)), (3, .ref oa), (4, .int (nI (4 * k)))]) hx hb dW_198 hl (by decide) rfl (fun ls hl => ?_)
  refine lv_aload_n hx hb dW_200 rfl (lv_at hl 3 rfl) ?_
  refine lw_arg (k := 1) hC hF hW.2.2.2.2 (by omega) (lv_sub hl [1, 5] rfl) (by decide) dW_201 dW_202 dW_204 dW_205 dW_206 ?_
  refine lw_rv (M' := wallF M (xs (4 * k + 1))) hF hW (run_V hC (c9_wall l G ma M none (xs (4 * k + 1)) hmI hI.c) (As := [.int (xs (4 * k + 1))]) (rest := []) rfl rfl ml_L_114 im_X9_wall se_X9_wall ini_X9 cd_X9_wall ⟨rfl, na_X9_wall⟩ mB_blind (LW.rcv hF hW) (LW.prm hF hW) hl.1 (Nat.le_of_ble_eq_true rfl) ⟨Nat.le_of_ble_eq_true rfl, Nat.le_of_ble_eq_true rfl⟩ ⟨hcs.1, hcs.2⟩ rfl dW_207) (fun H locs hW => ?_)
  exact lw_tail0 hC hF hW hrw.1 (lv_sub hl [0, 1, 2, 3, 4, 5] rfl) hcs dW_210 dW_211 dW_214 dW_216 dW_221 (by decide) (kk _ E1 ja1 v H locs _ _ ls hW hI1 hCE1 hLB1 (lv_sub hl [1, 2, 3, 4, 5] rfl))
set_option maxHeartbeats 4000000 in
set_option maxRecDepth 100000 in
theorem lc_setClosed (hC : CallFix p m c code 7 s #[Value.ref b] BIG RL) (hF : LF l s G d0 mi ma oa b L xs) (hi : 4 * k + 4 ≤ L) (hW : LW s G d0 ma oa x0 M M E ja v H locs) (hI : INV k M) (hCE : CE M E) (hLB : LB cells slots k M) (hl : lv_has ls 7 [(0, .ref b), (1, .ref x0), (2, .ref (ma 0)), (3, .ref oa), (4, .int (nI (4 * k)))])
    (kk : ∀ (M1 : MS) (E1 : ES) (ja1 : Nat → Nat → Nat) (v1 : Int64) (H1 : Heap) (locs1 : List Loc) (cells1 slots1 : Nat) (ls1 : Array Slot), LW s G d0 ma oa x0 M1 M1 E1 ja1 v1 H1 locs1 → INV (k + 1) M1 → CE M1 E1 → LB cells1 slots1 (k + 1) M1 → lv_has ls1 7 [(0, .ref b), (1, .ref x0), (2, .ref (ma 0)), (3, .ref oa), (4, .int (nI (4 * k)))] → W p l e room_1 s m #[Value.ref b] below meth c H1 locs1 cells1 slots1 Q (F0 m 1981 ls1 [])) : W p l e room_1 s m #[Value.ref b] below meth c H locs cells slots Q (F0 m 224 ls []) := by
  have hx := hC.1
  have hb := hC.2.1
  have hK := hF.1.1
  obtain ⟨z0, hz0⟩ : ∃ z, z = ja 8 0 := ⟨_, rfl⟩
  have hx0 : x0 = ja 8 0 := hW.2.1.symm
  subst hx0
  have hL := hF.2.2.2.2.2.1
  have hmI := hF.2.2.2.2.2.2.2.1
  have hl9 := hF.2.2.2.2.2.2.1
  have hRo : lR s ma oa oa := Or.inr (Or.inr rfl)
  have hk9 : k ≤ 511 := by omega
  refine lv_aload_n hx hb dW_224 rfl (lv_at hl 1 rfl) ?_
  refine lw_arg (k := 1) hC hF hW.2.2.2.2 (by omega) (lv_sub hl [0, 4] rfl) (by decide) dW_225 dW_226 dW_228 dW_229 dW_230 ?_
  refine lw_arg (k := 2) hC hF hW.2.2.2.2 (by omega) (lv_sub hl [0, 4] rfl) (by decide) dW_231 dW_232 dW_234 dW_235 dW_236 ?_
  refine lw_b01 hx hb dW_237 dW_240 dW_241 dW_244 ?_
  refine lv_aload_n hx hb dW_245 rfl (lv_at hl 3 rfl) ?_
  have hrw := rw_close M (xs (4 * k + 1)) (decide (¬ xs (4 * k + 2) = 0))
  have hLB1 : LB (cells + 1) (slots + 6) (k + 1) (closeF M (xs (4 * k + 1)) (decide (¬ xs (4 * k + 2) = 0))) := hLB.up (mc := 1) (ms := 6) hrw.2.1 hrw.2.2 (by omega) (by omega)
  have hcs : cells + 1 ≤ 601024 ∧ slots + 6 ≤ 7293034 := (hLB.up (M' := M) (mc := 1) (ms := 6) rfl rfl (by omega) (by omega)).room hI (by omega)
  refine lw_wr hF hW (run_SH hC (lL_setClosed l G d0 mi (lR s ma oa) ja M E oa v (xs (4 * k + 1)) (decide (¬ xs (4 * k + 2) = 0)) k hI hCE (by omega) hRo hl9) (As := [.ref (ja 8 0), .int (xs (4 * k + 1)), .int (bI (decide (¬ xs (4 * k + 2) = 0))), .ref oa]) (rest := []) rfl rfl ml_L_118 sm_L_setClosed ini_L cw_L_setClosed (show nArgs yL_setClosed 4 from ⟨by decide, by decide, by decide +kernel⟩) lJ_blind (LW.pre hF hW) hl.1 (Nat.le_of_ble_eq_true rfl) ⟨Nat.le_of_ble_eq_true rfl, Nat.le_of_ble_eq_true rfl⟩ ⟨hcs.1, hcs.2⟩ rfl dW_246) (fun E1 ja1 v1 H locs hW hv hCE1 hI1 => ?_)
  refine lv_istore (lv' := [(5, .int (cellT (xs (4 * k + 1)))), (0, .ref b), (1, .ref (ja 8 0)), (2, .ref (ma 0)), (3, .ref oa), (4, .int (nI (4 * k)))]) hx hb dW_249 hl (by decide) rfl (fun ls hl => ?_)
  refine lv_aload_n hx hb dW_251 rfl (lv_at hl 3 rfl) ?_
  refine lw_arg (k := 1) hC hF hW.2.2.2.2 (by omega) (lv_sub hl [1, 5] rfl) (by decide) dW_252 dW_253 dW_255 dW_256 dW_257 ?_
  refine lw_arg (k := 2) hC hF hW.2.2.2.2 (by omega) (lv_sub hl [1, 5] rfl) (by decide) dW_258 dW_259 dW_261 dW_262 dW_263 ?_
  refine lw_b01 hx hb dW_264 dW_267 dW_268 dW_271 ?_
  refine lw_ri (M' := closeF M (xs (4 * k + 1)) (decide (¬ xs (4 * k + 2) = 0))) (Rr := bI (closeR M (xs (4 * k + 1)))) hF hW (run_V hC (c9_setClosed l G ma M none (xs (4 * k + 1)) (decide (¬ xs (4 * k + 2) = 0)) hmI hI.c hI.f.2.2.2.2.2.1) (As := [.int (xs (4 * k + 1)), .int (bI (decide (¬ xs (4 * k + 2) = 0)))]) (rest := []) rfl rfl ml_L_121 im_X9_setClosed se_X9_setClosed ini_X9 cd_X9_setClosed ⟨rfl, na_X9_setClosed⟩ mB_blind (LW.rcv hF hW) (LW.prm hF hW) hl.1 (Nat.le_of_ble_eq_true rfl) ⟨Nat.le_of_ble_eq_true rfl, Nat.le_of_ble_eq_true rfl⟩ ⟨hcs.1, hcs.2⟩ rfl dW_272) (fun H locs hW => ?_)
  refine lv_istore (lv' := [(6, .int (bI (closeR M (xs (4 * k + 1))))), (5, .int (cellT (xs (4 * k + 1)))), (0, .ref b), (1, .ref (ja 8 0)), (2, .ref (ma 0)), (3, .ref oa), (4, .int (nI (4 * k)))]) hx hb dW_275 hl (by decide) rfl (fun ls hl => ?_)
  exact lw_tailz hC hF hW hrw.1 hv hl hcs dW_277 dW_278 dW_281 dW_283 dW_288 dW_290 dW_293 dW_294 dW_295 dW_296 dW_298 dW_301 dW_302 dW_305 dW_306 dW_307 dW_312 (by decide) (kk _ E1 ja1 v1 H locs _ _ ls hW hI1 hCE1 hLB1 (lv_sub hl [2, 3, 4, 5, 6] rfl))
set_option maxHeartbeats 4000000 in
set_option maxRecDepth 100000 in
theorem lc_tick (hC : CallFix p m c code 7 s #[Value.ref b] BIG RL) (hF : LF l s G d0 mi ma oa b L xs) (hi : 4 * k + 4 ≤ L) (hW : LW s G d0 ma oa x0 M M E ja v H locs) (hI : INV k M) (hCE : CE M E) (hLB : LB cells slots k M) (hl : lv_has ls 7 [(0, .ref b), (1, .ref x0), (2, .ref (ma 0)), (3, .ref oa), (4, .int (nI (4 * k)))])
    (kk : ∀ (M1 : MS) (E1 : ES) (ja1 : Nat → Nat → Nat) (v1 : Int64) (H1 : Heap) (locs1 : List Loc) (cells1 slots1 : Nat) (ls1 : Array Slot), LW s G d0 ma oa x0 M1 M1 E1 ja1 v1 H1 locs1 → INV (k + 1) M1 → CE M1 E1 → LB cells1 slots1 (k + 1) M1 → lv_has ls1 7 [(0, .ref b), (1, .ref x0), (2, .ref (ma 0)), (3, .ref oa), (4, .int (nI (4 * k)))] → W p l e room_1 s m #[Value.ref b] below meth c H1 locs1 cells1 slots1 Q (F0 m 1981 ls1 [])) : W p l e room_1 s m #[Value.ref b] below meth c H locs cells slots Q (F0 m 1567 ls []) := by
  have hx := hC.1
  have hb := hC.2.1
  have hK := hF.1.1
  obtain ⟨z0, hz0⟩ : ∃ z, z = ja 8 0 := ⟨_, rfl⟩
  have hx0 : x0 = ja 8 0 := hW.2.1.symm
  subst hx0
  have hL := hF.2.2.2.2.2.1
  have hmI := hF.2.2.2.2.2.2.2.1
  have hl9 := hF.2.2.2.2.2.2.1
  have hRo : lR s ma oa oa := Or.inr (Or.inr rfl)
  have hk9 : k ≤ 511 := by omega
  refine lv_aload_n hx hb dW_1567 rfl (lv_at hl 1 rfl) ?_
  refine lw_arg (k := 1) hC hF hW.2.2.2.2 (by omega) (lv_sub hl [0, 4] rfl) (by decide) dW_1568 dW_1569 dW_1571 dW_1572 dW_1573 ?_
  refine lv_aload_n hx hb dW_1574 rfl (lv_at hl 3 rfl) ?_
  obtain ⟨hf1, hf2, hf3, hf4, hf5⟩ := tk_fact (x := (xs (4 * k + 1))) hI
  have hg9 := gS_le hf4
  obtain ⟨mc, hmc⟩ : ∃ z, z = 1 + 2 * (tN (tkF M (xs (4 * k + 1))) - tN M) + 2 * (nP (tkF M (xs (4 * k + 1))) - nP M) := ⟨_, rfl⟩
  obtain ⟨ms, hms⟩ : ∃ z, z = 6 + 20 * (tN (tkF M (xs (4 * k + 1))) - tN M) + (gS (nP (tkF M (xs (4 * k + 1)))) - gS (nP M)) := ⟨_, rfl⟩
  have hLB1 : LB (cells + mc) (slots + ms) (k + 1) (tkF M (xs (4 * k + 1))) := ⟨by have := hLB.1; omega, by have := hLB.2; omega⟩
  have hcs := hLB1.room hf1 (by omega)
  refine lw_wr hF hW (run_SH hC (lL_tick l G d0 mi (lR s ma oa) ja M E oa v (xs (4 * k + 1)) k hI hCE (by omega) hRo hl9 mc ms (by omega) (by omega) (fun h => by have := hf2 h; omega) (fun h => by have := hf2 h; omega)) (As := [.ref (ja 8 0), .int (xs (4 * k + 1)), .ref oa]) (rest := []) rfl rfl ml_L_186 sm_L_tick ini_L cw_L_tick (show nArgs yL_tick 3 from ⟨by decide, by decide, by decide +kernel⟩) lJ_blind (LW.pre hF hW) hl.1 (Nat.le_of_ble_eq_true rfl) ⟨Nat.le_of_ble_eq_true rfl, Nat.le_of_ble_eq_true rfl⟩ ⟨hcs.1, hcs.2⟩ rfl dW_1575) (fun E1 ja1 v1 H locs hW hv hCE1 hI1 => ?_)
  refine lv_istore (lv' := [(5, .int (tkT M (xs (4 * k + 1)))), (0, .ref b), (1, .ref (ja 8 0)), (2, .ref (ma 0)), (3, .ref oa), (4, .int (nI (4 * k)))]) hx hb dW_1578 hl (by decide) rfl (fun ls hl => ?_)
  refine lv_aload_n hx hb dW_1580 rfl (lv_at hl 3 rfl) ?_
  refine lw_arg (k := 1) hC hF hW.2.2.2.2 (by omega) (lv_sub hl [1, 5] rfl) (by decide) dW_1581 dW_1582 dW_1584 dW_1585 dW_1586 ?_
  refine lw_ri (M' := tkF M (xs (4 * k + 1))) (Rr := tkR M (xs (4 * k + 1))) hF hW (run_V hC (c9_tick l G ma M none (xs (4 * k + 1)) hmI hI.c ⟨k, hI⟩) (As := [.int (xs (4 * k + 1))]) (rest := []) rfl rfl ml_L_188 im_X9_tick se_X9_tick ini_X9 cd_X9_tick ⟨rfl, na_X9_tick⟩ mB_blind (LW.rcv hF hW) (LW.prm hF hW) hl.1 (Nat.le_of_ble_eq_true rfl) ⟨Nat.le_of_ble_eq_true rfl, Nat.le_of_ble_eq_true rfl⟩ ⟨hcs.1, hcs.2⟩ rfl dW_1587) (fun H locs hW => ?_)
  refine lv_istore (lv' := [(6, .int (tkR M (xs (4 * k + 1)))), (5, .int (tkT M (xs (4 * k + 1)))), (0, .ref b), (1, .ref (ja 8 0)), (2, .ref (ma 0)), (3, .ref oa), (4, .int (nI (4 * k)))]) hx hb dW_1590 hl (by decide) rfl (fun ls hl => ?_)
  exact lw_tail hC hF hW hf5 hv hl hcs dW_1592 dW_1593 dW_1596 dW_1598 dW_1603 dW_1605 dW_1608 dW_1609 dW_1610 dW_1611 dW_1613 dW_1614 dW_1615 dW_1620 (by decide) (kk _ E1 ja1 v1 H locs _ _ ls hW hI1 hCE1 hLB1 (lv_sub hl [2, 3, 4, 5, 6] rfl))
set_option maxHeartbeats 4000000 in
set_option maxRecDepth 100000 in
theorem lc_time (hC : CallFix p m c code 7 s #[Value.ref b] BIG RL) (hF : LF l s G d0 mi ma oa b L xs) (hi : 4 * k + 4 ≤ L) (hW : LW s G d0 ma oa x0 M M E ja v H locs) (hI : INV k M) (hCE : CE M E) (hLB : LB cells slots k M) (hl : lv_has ls 7 [(0, .ref b), (1, .ref x0), (2, .ref (ma 0)), (3, .ref oa), (4, .int (nI (4 * k)))])
    (kk : ∀ (M1 : MS) (E1 : ES) (ja1 : Nat → Nat → Nat) (v1 : Int64) (H1 : Heap) (locs1 : List Loc) (cells1 slots1 : Nat) (ls1 : Array Slot), LW s G d0 ma oa x0 M1 M1 E1 ja1 v1 H1 locs1 → INV (k + 1) M1 → CE M1 E1 → LB cells1 slots1 (k + 1) M1 → lv_has ls1 7 [(0, .ref b), (1, .ref x0), (2, .ref (ma 0)), (3, .ref oa), (4, .int (nI (4 * k)))] → W p l e room_1 s m #[Value.ref b] below meth c H1 locs1 cells1 slots1 Q (F0 m 1981 ls1 [])) : W p l e room_1 s m #[Value.ref b] below meth c H locs cells slots Q (F0 m 1623 ls []) := by
  have hx := hC.1
  have hb := hC.2.1
  have hK := hF.1.1
  obtain ⟨z0, hz0⟩ : ∃ z, z = ja 8 0 := ⟨_, rfl⟩
  have hx0 : x0 = ja 8 0 := hW.2.1.symm
  subst hx0
  have hL := hF.2.2.2.2.2.1
  have hmI := hF.2.2.2.2.2.2.2.1
  have hl9 := hF.2.2.2.2.2.2.1
  have hRo : lR s ma oa oa := Or.inr (Or.inr rfl)
  have hk9 : k ≤ 511 := by omega
  refine lv_aload_n hx hb dW_1623 rfl (lv_at hl 1 rfl) ?_
  have hcs := (hLB.up (M' := thr M 0) (mc := 0) (ms := 0) rfl rfl (by omega) (by omega)).room (INV_thr (x := 0) hI) (by omega)
  refine cl_pi (x := M 1 0) (run_V hC (cJ_X8_time l G d0 mi (lR s ma oa) ja M E) (As := []) (rest := []) rfl rfl ml_L_189 im_X8_time se_X8_time ini_X8 cd_X8_time ⟨rfl, na_X8_time⟩ jB_blind (hW.1.recv hK (show jV M 8 0 from rfl) rfl) (LW.prj hF hW) hl.1 (Nat.le_of_ble_eq_true rfl) ⟨Nat.le_of_ble_eq_true rfl, Nat.le_of_ble_eq_true rfl⟩ ⟨hcs.1, hcs.2⟩ rfl dW_1624) rfl ?_
  refine lv_aload_n hx hb dW_1627 rfl (lv_at hl 2 rfl) ?_
  refine lw_ri (M' := thr M 0) (Rr := M 1 0) hF hW (run_V hC (c9_time l G ma M none hmI) (As := []) (rest := [.int (M 1 0)]) rfl rfl ml_L_192 im_X9_time se_X9_time ini_X9 cd_X9_time ⟨rfl, na_X9_time⟩ mB_blind (LW.rcv hF hW) (LW.prm hF hW) hl.1 (Nat.le_of_ble_eq_true rfl) ⟨Nat.le_of_ble_eq_true rfl, Nat.le_of_ble_eq_true rfl⟩ ⟨hcs.1, hcs.2⟩ rfl dW_1628) (fun H locs hW => ?_)
  refine lv_icmp_eq (tgt := 1981) hx hb dW_1631 (by decide) (fun _ => ?_) (fun h => absurd rfl h)
  exact kk (thr M 0) E ja v H locs cells slots ls ⟨hW.1.gh thr_lk, hW.2⟩ ((INV_thr (x := 0) hI).Bm (by omega)) (hCE.set rfl) (hLB.up (mc := 0) (ms := 0) rfl rfl (by omega) (by omega)) hl
set_option maxHeartbeats 4000000 in
set_option maxRecDepth 100000 in
theorem lc_steps (hC : CallFix p m c code 7 s #[Value.ref b] BIG RL) (hF : LF l s G d0 mi ma oa b L xs) (hi : 4 * k + 4 ≤ L) (hW : LW s G d0 ma oa x0 M M E ja v H locs) (hI : INV k M) (hCE : CE M E) (hLB : LB cells slots k M) (hl : lv_has ls 7 [(0, .ref b), (1, .ref x0), (2, .ref (ma 0)), (3, .ref oa), (4, .int (nI (4 * k)))])
    (kk : ∀ (M1 : MS) (E1 : ES) (ja1 : Nat → Nat → Nat) (v1 : Int64) (H1 : Heap) (locs1 : List Loc) (cells1 slots1 : Nat) (ls1 : Array Slot), LW s G d0 ma oa x0 M1 M1 E1 ja1 v1 H1 locs1 → INV (k + 1) M1 → CE M1 E1 → LB cells1 slots1 (k + 1) M1 → lv_has ls1 7 [(0, .ref b), (1, .ref x0), (2, .ref (ma 0)), (3, .ref oa), (4, .int (nI (4 * k)))] → W p l e room_1 s m #[Value.ref b] below meth c H1 locs1 cells1 slots1 Q (F0 m 1981 ls1 [])) : W p l e room_1 s m #[Value.ref b] below meth c H locs cells slots Q (F0 m 1636 ls []) := by
  have hx := hC.1
  have hb := hC.2.1
  have hK := hF.1.1
  obtain ⟨z0, hz0⟩ : ∃ z, z = ja 8 0 := ⟨_, rfl⟩
  have hx0 : x0 = ja 8 0 := hW.2.1.symm
  subst hx0
  have hL := hF.2.2.2.2.2.1
  have hmI := hF.2.2.2.2.2.2.2.1
  have hl9 := hF.2.2.2.2.2.2.1
  have hRo : lR s ma oa oa := Or.inr (Or.inr rfl)
  have hk9 : k ≤ 511 := by omega
  refine lv_aload_n hx hb dW_1636 rfl (lv_at hl 1 rfl) ?_
  have hcs := (hLB.up (M' := thr M 0) (mc := 0) (ms := 0) rfl rfl (by omega) (by omega)).room (INV_thr (x := 0) hI) (by omega)
  refine cl_pi (x := M 28 0) (run_V hC (cJ_X8_steps l G d0 mi (lR s ma oa) ja M E) (As := []) (rest := []) rfl rfl ml_L_193 im_X8_steps se_X8_steps ini_X8 cd_X8_steps ⟨rfl, na_X8_steps⟩ jB_blind (hW.1.recv hK (show jV M 8 0 from rfl) rfl) (LW.prj hF hW) hl.1 (Nat.le_of_ble_eq_true rfl) ⟨Nat.le_of_ble_eq_true rfl, Nat.le_of_ble_eq_true rfl⟩ ⟨hcs.1, hcs.2⟩ rfl dW_1637) rfl ?_
  refine lv_aload_n hx hb dW_1640 rfl (lv_at hl 2 rfl) ?_
  refine lw_ri (M' := thr M 0) (Rr := M 28 0) hF hW (run_V hC (c9_steps l G ma M none hmI) (As := []) (rest := [.int (M 28 0)]) rfl rfl ml_L_196 im_X9_steps se_X9_steps ini_X9 cd_X9_steps ⟨rfl, na_X9_steps⟩ mB_blind (LW.rcv hF hW) (LW.prm hF hW) hl.1 (Nat.le_of_ble_eq_true rfl) ⟨Nat.le_of_ble_eq_true rfl, Nat.le_of_ble_eq_true rfl⟩ ⟨hcs.1, hcs.2⟩ rfl dW_1641) (fun H locs hW => ?_)
  refine lv_icmp_eq (tgt := 1981) hx hb dW_1644 (by decide) (fun _ => ?_) (fun h => absurd rfl h)
  exact kk (thr M 0) E ja v H locs cells slots ls ⟨hW.1.gh thr_lk, hW.2⟩ ((INV_thr (x := 0) hI).Bm (by omega)) (hCE.set rfl) (hLB.up (mc := 0) (ms := 0) rfl rfl (by omega) (by omega)) hl
set_option maxHeartbeats 4000000 in
set_option maxRecDepth 100000 in
theorem lc_rings (hC : CallFix p m c code 7 s #[Value.ref b] BIG RL) (hF : LF l s G d0 mi ma oa b L xs) (hi : 4 * k + 4 ≤ L) (hW : LW s G d0 ma oa x0 M M E ja v H locs) (hI : INV k M) (hCE : CE M E) (hLB : LB cells slots k M) (hl : lv_has ls 7 [(0, .ref b), (1, .ref x0), (2, .ref (ma 0)), (3, .ref oa), (4, .int (nI (4 * k)))])
    (kk : ∀ (M1 : MS) (E1 : ES) (ja1 : Nat → Nat → Nat) (v1 : Int64) (H1 : Heap) (locs1 : List Loc) (cells1 slots1 : Nat) (ls1 : Array Slot), LW s G d0 ma oa x0 M1 M1 E1 ja1 v1 H1 locs1 → INV (k + 1) M1 → CE M1 E1 → LB cells1 slots1 (k + 1) M1 → lv_has ls1 7 [(0, .ref b), (1, .ref x0), (2, .ref (ma 0)), (3, .ref oa), (4, .int (nI (4 * k)))] → W p l e room_1 s m #[Value.ref b] below meth c H1 locs1 cells1 slots1 Q (F0 m 1981 ls1 [])) : W p l e room_1 s m #[Value.ref b] below meth c H locs cells slots Q (F0 m 1649 ls []) := by
  have hx := hC.1
  have hb := hC.2.1
  have hK := hF.1.1
  obtain ⟨z0, hz0⟩ : ∃ z, z = ja 8 0 := ⟨_, rfl⟩
  have hx0 : x0 = ja 8 0 := hW.2.1.symm
  subst hx0
  have hL := hF.2.2.2.2.2.1
  have hmI := hF.2.2.2.2.2.2.2.1
  have hl9 := hF.2.2.2.2.2.2.1
  have hRo : lR s ma oa oa := Or.inr (Or.inr rfl)
  have hk9 : k ≤ 511 := by omega
  refine lv_aload_n hx hb dW_1649 rfl (lv_at hl 1 rfl) ?_
  have hcs := (hLB.up (M' := thr M 0) (mc := 0) (ms := 0) rfl rfl (by omega) (by omega)).room (INV_thr (x := 0) hI) (by omega)
  refine cl_pi (x := M 29 0) (run_V hC (cJ_X8_rings l G d0 mi (lR s ma oa) ja M E) (As := []) (rest := []) rfl rfl ml_L_197 im_X8_rings se_X8_rings ini_X8 cd_X8_rings ⟨rfl, na_X8_rings⟩ jB_blind (hW.1.recv hK (show jV M 8 0 from rfl) rfl) (LW.prj hF hW) hl.1 (Nat.le_of_ble_eq_true rfl) ⟨Nat.le_of_ble_eq_true rfl, Nat.le_of_ble_eq_true rfl⟩ ⟨hcs.1, hcs.2⟩ rfl dW_1650) rfl ?_
  refine lv_aload_n hx hb dW_1653 rfl (lv_at hl 2 rfl) ?_
  refine lw_ri (M' := thr M 0) (Rr := M 29 0) hF hW (run_V hC (c9_rings l G ma M none hmI) (As := []) (rest := [.int (M 29 0)]) rfl rfl ml_L_200 im_X9_rings se_X9_rings ini_X9 cd_X9_rings ⟨rfl, na_X9_rings⟩ mB_blind (LW.rcv hF hW) (LW.prm hF hW) hl.1 (Nat.le_of_ble_eq_true rfl) ⟨Nat.le_of_ble_eq_true rfl, Nat.le_of_ble_eq_true rfl⟩ ⟨hcs.1, hcs.2⟩ rfl dW_1654) (fun H locs hW => ?_)
  refine lv_icmp_eq (tgt := 1981) hx hb dW_1657 (by decide) (fun _ => ?_) (fun h => absurd rfl h)
  exact kk (thr M 0) E ja v H locs cells slots ls ⟨hW.1.gh thr_lk, hW.2⟩ ((INV_thr (x := 0) hI).Bm (by omega)) (hCE.set rfl) (hLB.up (mc := 0) (ms := 0) rfl rfl (by omega) (by omega)) hl
set_option maxHeartbeats 4000000 in
set_option maxRecDepth 100000 in
theorem lc_yields (hC : CallFix p m c code 7 s #[Value.ref b] BIG RL) (hF : LF l s G d0 mi ma oa b L xs) (hi : 4 * k + 4 ≤ L) (hW : LW s G d0 ma oa x0 M M E ja v H locs) (hI : INV k M) (hCE : CE M E) (hLB : LB cells slots k M) (hl : lv_has ls 7 [(0, .ref b), (1, .ref x0), (2, .ref (ma 0)), (3, .ref oa), (4, .int (nI (4 * k)))])
    (kk : ∀ (M1 : MS) (E1 : ES) (ja1 : Nat → Nat → Nat) (v1 : Int64) (H1 : Heap) (locs1 : List Loc) (cells1 slots1 : Nat) (ls1 : Array Slot), LW s G d0 ma oa x0 M1 M1 E1 ja1 v1 H1 locs1 → INV (k + 1) M1 → CE M1 E1 → LB cells1 slots1 (k + 1) M1 → lv_has ls1 7 [(0, .ref b), (1, .ref x0), (2, .ref (ma 0)), (3, .ref oa), (4, .int (nI (4 * k)))] → W p l e room_1 s m #[Value.ref b] below meth c H1 locs1 cells1 slots1 Q (F0 m 1981 ls1 [])) : W p l e room_1 s m #[Value.ref b] below meth c H locs cells slots Q (F0 m 1662 ls []) := by
  have hx := hC.1
  have hb := hC.2.1
  have hK := hF.1.1
  obtain ⟨z0, hz0⟩ : ∃ z, z = ja 8 0 := ⟨_, rfl⟩
  have hx0 : x0 = ja 8 0 := hW.2.1.symm
  subst hx0
  have hL := hF.2.2.2.2.2.1
  have hmI := hF.2.2.2.2.2.2.2.1
  have hl9 := hF.2.2.2.2.2.2.1
  have hRo : lR s ma oa oa := Or.inr (Or.inr rfl)
  have hk9 : k ≤ 511 := by omega
  refine lv_aload_n hx hb dW_1662 rfl (lv_at hl 1 rfl) ?_
  have hcs := (hLB.up (M' := thr M 0) (mc := 0) (ms := 0) rfl rfl (by omega) (by omega)).room (INV_thr (x := 0) hI) (by omega)
  refine cl_pi (x := M 30 0) (run_V hC (cJ_X8_yields l G d0 mi (lR s ma oa) ja M E) (As := []) (rest := []) rfl rfl ml_L_201 im_X8_yields se_X8_yields ini_X8 cd_X8_yields ⟨rfl, na_X8_yields⟩ jB_blind (hW.1.recv hK (show jV M 8 0 from rfl) rfl) (LW.prj hF hW) hl.1 (Nat.le_of_ble_eq_true rfl) ⟨Nat.le_of_ble_eq_true rfl, Nat.le_of_ble_eq_true rfl⟩ ⟨hcs.1, hcs.2⟩ rfl dW_1663) rfl ?_
  refine lv_aload_n hx hb dW_1666 rfl (lv_at hl 2 rfl) ?_
  refine lw_ri (M' := thr M 0) (Rr := M 30 0) hF hW (run_V hC (c9_yields l G ma M none hmI) (As := []) (rest := [.int (M 30 0)]) rfl rfl ml_L_204 im_X9_yields se_X9_yields ini_X9 cd_X9_yields ⟨rfl, na_X9_yields⟩ mB_blind (LW.rcv hF hW) (LW.prm hF hW) hl.1 (Nat.le_of_ble_eq_true rfl) ⟨Nat.le_of_ble_eq_true rfl, Nat.le_of_ble_eq_true rfl⟩ ⟨hcs.1, hcs.2⟩ rfl dW_1667) (fun H locs hW => ?_)
  refine lv_icmp_eq (tgt := 1981) hx hb dW_1670 (by decide) (fun _ => ?_) (fun h => absurd rfl h)
  exact kk (thr M 0) E ja v H locs cells slots ls ⟨hW.1.gh thr_lk, hW.2⟩ ((INV_thr (x := 0) hI).Bm (by omega)) (hCE.set rfl) (hLB.up (mc := 0) (ms := 0) rfl rfl (by omega) (by omega)) hl
set_option maxHeartbeats 4000000 in
set_option maxRecDepth 100000 in
theorem lc_knots (hC : CallFix p m c code 7 s #[Value.ref b] BIG RL) (hF : LF l s G d0 mi ma oa b L xs) (hi : 4 * k + 4 ≤ L) (hW : LW s G d0 ma oa x0 M M E ja v H locs) (hI : INV k M) (hCE : CE M E) (hLB : LB cells slots k M) (hl : lv_has ls 7 [(0, .ref b), (1, .ref x0), (2, .ref (ma 0)), (3, .ref oa), (4, .int (nI (4 * k)))])
    (kk : ∀ (M1 : MS) (E1 : ES) (ja1 : Nat → Nat → Nat) (v1 : Int64) (H1 : Heap) (locs1 : List Loc) (cells1 slots1 : Nat) (ls1 : Array Slot), LW s G d0 ma oa x0 M1 M1 E1 ja1 v1 H1 locs1 → INV (k + 1) M1 → CE M1 E1 → LB cells1 slots1 (k + 1) M1 → lv_has ls1 7 [(0, .ref b), (1, .ref x0), (2, .ref (ma 0)), (3, .ref oa), (4, .int (nI (4 * k)))] → W p l e room_1 s m #[Value.ref b] below meth c H1 locs1 cells1 slots1 Q (F0 m 1981 ls1 [])) : W p l e room_1 s m #[Value.ref b] below meth c H locs cells slots Q (F0 m 1675 ls []) := by
  have hx := hC.1
  have hb := hC.2.1
  have hK := hF.1.1
  obtain ⟨z0, hz0⟩ : ∃ z, z = ja 8 0 := ⟨_, rfl⟩
  have hx0 : x0 = ja 8 0 := hW.2.1.symm
  subst hx0
  have hL := hF.2.2.2.2.2.1
  have hmI := hF.2.2.2.2.2.2.2.1
  have hl9 := hF.2.2.2.2.2.2.1
  have hRo : lR s ma oa oa := Or.inr (Or.inr rfl)
  have hk9 : k ≤ 511 := by omega
  refine lv_aload_n hx hb dW_1675 rfl (lv_at hl 1 rfl) ?_
  have hcs := (hLB.up (M' := thr M 0) (mc := 0) (ms := 0) rfl rfl (by omega) (by omega)).room (INV_thr (x := 0) hI) (by omega)
  refine cl_pi (x := M 31 0) (run_V hC (cJ_X8_knots l G d0 mi (lR s ma oa) ja M E) (As := []) (rest := []) rfl rfl ml_L_205 im_X8_knots se_X8_knots ini_X8 cd_X8_knots ⟨rfl, na_X8_knots⟩ jB_blind (hW.1.recv hK (show jV M 8 0 from rfl) rfl) (LW.prj hF hW) hl.1 (Nat.le_of_ble_eq_true rfl) ⟨Nat.le_of_ble_eq_true rfl, Nat.le_of_ble_eq_true rfl⟩ ⟨hcs.1, hcs.2⟩ rfl dW_1676) rfl ?_
  refine lv_aload_n hx hb dW_1679 rfl (lv_at hl 2 rfl) ?_
  refine lw_ri (M' := thr M 0) (Rr := M 31 0) hF hW (run_V hC (c9_knots l G ma M none hmI) (As := []) (rest := [.int (M 31 0)]) rfl rfl ml_L_208 im_X9_knots se_X9_knots ini_X9 cd_X9_knots ⟨rfl, na_X9_knots⟩ mB_blind (LW.rcv hF hW) (LW.prm hF hW) hl.1 (Nat.le_of_ble_eq_true rfl) ⟨Nat.le_of_ble_eq_true rfl, Nat.le_of_ble_eq_true rfl⟩ ⟨hcs.1, hcs.2⟩ rfl dW_1680) (fun H locs hW => ?_)
  refine lv_icmp_eq (tgt := 1981) hx hb dW_1683 (by decide) (fun _ => ?_) (fun h => absurd rfl h)
  exact kk (thr M 0) E ja v H locs cells slots ls ⟨hW.1.gh thr_lk, hW.2⟩ ((INV_thr (x := 0) hI).Bm (by omega)) (hCE.set rfl) (hLB.up (mc := 0) (ms := 0) rfl rfl (by omega) (by omega)) hl
set_option maxHeartbeats 4000000 in
set_option maxRecDepth 100000 in
theorem lc_picks (hC : CallFix p m c code 7 s #[Value.ref b] BIG RL) (hF : LF l s G d0 mi ma oa b L xs) (hi : 4 * k + 4 ≤ L) (hW : LW s G d0 ma oa x0 M M E ja v H locs) (hI : INV k M) (hCE : CE M E) (hLB : LB cells slots k M) (hl : lv_has ls 7 [(0, .ref b), (1, .ref x0), (2, .ref (ma 0)), (3, .ref oa), (4, .int (nI (4 * k)))])
    (kk : ∀ (M1 : MS) (E1 : ES) (ja1 : Nat → Nat → Nat) (v1 : Int64) (H1 : Heap) (locs1 : List Loc) (cells1 slots1 : Nat) (ls1 : Array Slot), LW s G d0 ma oa x0 M1 M1 E1 ja1 v1 H1 locs1 → INV (k + 1) M1 → CE M1 E1 → LB cells1 slots1 (k + 1) M1 → lv_has ls1 7 [(0, .ref b), (1, .ref x0), (2, .ref (ma 0)), (3, .ref oa), (4, .int (nI (4 * k)))] → W p l e room_1 s m #[Value.ref b] below meth c H1 locs1 cells1 slots1 Q (F0 m 1981 ls1 [])) : W p l e room_1 s m #[Value.ref b] below meth c H locs cells slots Q (F0 m 1800 ls []) := by
  have hx := hC.1
  have hb := hC.2.1
  have hK := hF.1.1
  obtain ⟨z0, hz0⟩ : ∃ z, z = ja 8 0 := ⟨_, rfl⟩
  have hx0 : x0 = ja 8 0 := hW.2.1.symm
  subst hx0
  have hL := hF.2.2.2.2.2.1
  have hmI := hF.2.2.2.2.2.2.2.1
  have hl9 := hF.2.2.2.2.2.2.1
  have hRo : lR s ma oa oa := Or.inr (Or.inr rfl)
  have hk9 : k ≤ 511 := by omega
  refine lv_aload_n hx hb dW_1800 rfl (lv_at hl 1 rfl) ?_
  have hcs := (hLB.up (M' := thr M 0) (mc := 0) (ms := 0) rfl rfl (by omega) (by omega)).room (INV_thr (x := 0) hI) (by omega)
  refine cl_pi (x := M 34 0) (run_V hC (cJ_X8_picks l G d0 mi (lR s ma oa) ja M E) (As := []) (rest := []) rfl rfl ml_L_215 im_X8_picks se_X8_picks ini_X8 cd_X8_picks ⟨rfl, na_X8_picks⟩ jB_blind (hW.1.recv hK (show jV M 8 0 from rfl) rfl) (LW.prj hF hW) hl.1 (Nat.le_of_ble_eq_true rfl) ⟨Nat.le_of_ble_eq_true rfl, Nat.le_of_ble_eq_true rfl⟩ ⟨hcs.1, hcs.2⟩ rfl dW_1801) hI.p.1.symm ?_
  refine lv_aload_n hx hb dW_1804 rfl (lv_at hl 2 rfl) ?_
  refine lw_ri (M' := thr M 0) (Rr := M 34 0) hF hW (run_V hC (c9_picks l G ma M none hmI) (As := []) (rest := [.int (M 34 0)]) rfl rfl ml_L_218 im_X9_picks se_X9_picks ini_X9 cd_X9_picks ⟨rfl, na_X9_picks⟩ mB_blind (LW.rcv hF hW) (LW.prm hF hW) hl.1 (Nat.le_of_ble_eq_true rfl) ⟨Nat.le_of_ble_eq_true rfl, Nat.le_of_ble_eq_true rfl⟩ ⟨hcs.1, hcs.2⟩ rfl dW_1805) (fun H locs hW => ?_)
  refine lv_icmp_eq (tgt := 1981) hx hb dW_1808 (by decide) (fun _ => ?_) (fun h => absurd rfl h)
  exact kk (thr M 0) E ja v H locs cells slots ls ⟨hW.1.gh thr_lk, hW.2⟩ ((INV_thr (x := 0) hI).Bm (by omega)) (hCE.set rfl) (hLB.up (mc := 0) (ms := 0) rfl rfl (by omega) (by omega)) hl
end LWC
