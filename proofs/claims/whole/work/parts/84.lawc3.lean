/-! CASES OF THE LAW -/
section LWC
variable {p : Program} {l : Launch} {e : Env} {s : State} {m : MethodId} {below : List Frame} {meth : Method} {c : Code} {H : Heap} {locs : List Loc} {cells slots : Nat} {Q : State → Prop}
variable {ls : Array Slot} {G : gG} {d0 mi : Nat} {ma : Nat → Nat} {oa x0 b L k : Nat} {xs : Nat → Int32} {M : MS} {E : ES} {ja : Nat → Nat → Nat} {v : Int64}
set_option maxHeartbeats 4000000 in
set_option maxRecDepth 100000 in
theorem lc_addStation (hC : CallFix p m c code 7 s #[Value.ref b] BIG RL) (hF : LF l s G d0 mi ma oa b L xs) (hi : 4 * k + 4 ≤ L) (hW : LW s G d0 ma oa x0 M M E ja v H locs) (hI : INV k M) (hCE : CE M E) (hLB : LB cells slots k M) (hl : lv_has ls 7 [(0, .ref b), (1, .ref x0), (2, .ref (ma 0)), (3, .ref oa), (4, .int (nI (4 * k)))])
    (kk : ∀ (M1 : MS) (E1 : ES) (ja1 : Nat → Nat → Nat) (v1 : Int64) (H1 : Heap) (locs1 : List Loc) (cells1 slots1 : Nat) (ls1 : Array Slot), LW s G d0 ma oa x0 M1 M1 E1 ja1 v1 H1 locs1 → INV (k + 1) M1 → CE M1 E1 → LB cells1 slots1 (k + 1) M1 → lv_has ls1 7 [(0, .ref b), (1, .ref x0), (2, .ref (ma 0)), (3, .ref oa), (4, .int (nI (4 * k)))] → W p l e room_1 s m #[Value.ref b] below meth c H1 locs1 cells1 slots1 Q (F0 m 1981 ls1 [])) : W p l e room_1 s m #[Value.ref b] below meth c H locs cells slots Q (F0 m 383 ls []) := by
  have hx := hC.1
  have hb := hC.2.1
  have hK := hF.1.1
  obtain ⟨z0, hz0⟩ : ∃ z, z = ja 8 0 := ⟨_, rfl⟩
  have hx0 : x0 = ja 8 0 := hW.2.1.symm
  subst hx0
  have hL := hF.2.2.2.2.2.1
  have hmI := hF.2.2.2.2.2.2.2.1
  have hl9 := hF.2.2.2.2.2.2.1
  have hRo : lR s ma oa oa := Or.inr (Or.inr rfl)
  have hk9 : k ≤ 511 := by omega
  refine lv_aload_n hx hb dW_383 rfl (lv_at hl 1 rfl) ?_
  refine lw_arg (k := 1) hC hF hW.2.2.2.2 (by omega) (lv_sub hl [0, 4] rfl) (by decide) dW_384 dW_385 dW_387 dW_388 dW_389 ?_
  refine lv_aload_n hx hb dW_390 rfl (lv_at hl 3 rfl) ?_
  have hrw := rw_stn M (xs (4 * k + 1))
  have hLB1 : LB (cells + 3) (slots + 73) (k + 1) (stnF M (xs (4 * k + 1))) := hLB.up (mc := 3) (ms := 73) hrw.2.1 hrw.2.2 (by omega) (by omega)
  have hcs : cells + 3 ≤ 601024 ∧ slots + 73 ≤ 7293034 := (hLB.up (M' := M) (mc := 3) (ms := 73) rfl rfl (by omega) (by omega)).room hI (by omega)
  refine lw_wr hF hW (run_SH hC (lL_addStation l G d0 mi (lR s ma oa) ja M E oa v (xs (4 * k + 1)) k hI hCE (by omega) hRo hl9) (As := [.ref (ja 8 0), .int (xs (4 * k + 1)), .ref oa]) (rest := []) rfl rfl ml_L_126 sm_L_addStation ini_L cw_L_addStation (show nArgs yL_addStation 3 from ⟨by decide, by decide, by decide +kernel⟩) lJ_blind (LW.pre hF hW) hl.1 (Nat.le_of_ble_eq_true rfl) ⟨Nat.le_of_ble_eq_true rfl, Nat.le_of_ble_eq_true rfl⟩ ⟨hcs.1, hcs.2⟩ rfl dW_391) (fun E1 ja1 v1 H locs hW hv hCE1 hI1 => ?_)
  refine lv_istore (lv' := [(5, .int (stnT M (xs (4 * k + 1)))), (0, .ref b), (1, .ref (ja 8 0)), (2, .ref (ma 0)), (3, .ref oa), (4, .int (nI (4 * k)))]) hx hb dW_394 hl (by decide) rfl (fun ls hl => ?_)
  refine lv_aload_n hx hb dW_396 rfl (lv_at hl 3 rfl) ?_
  refine lw_arg (k := 1) hC hF hW.2.2.2.2 (by omega) (lv_sub hl [1, 5] rfl) (by decide) dW_397 dW_398 dW_400 dW_401 dW_402 ?_
  refine lw_ri (M' := stnF M (xs (4 * k + 1))) (Rr := stnR M (xs (4 * k + 1))) hF hW (run_V hC (c9_addStation l G ma M none (xs (4 * k + 1)) hmI hI.c) (As := [.int (xs (4 * k + 1))]) (rest := []) rfl rfl ml_L_129 im_X9_addStation se_X9_addStation ini_X9 cd_X9_addStation ⟨rfl, na_X9_addStation⟩ mB_blind (LW.rcv hF hW) (LW.prm hF hW) hl.1 (Nat.le_of_ble_eq_true rfl) ⟨Nat.le_of_ble_eq_true rfl, Nat.le_of_ble_eq_true rfl⟩ ⟨hcs.1, hcs.2⟩ rfl dW_403) (fun H locs hW => ?_)
  refine lv_istore (lv' := [(6, .int (stnR M (xs (4 * k + 1)))), (5, .int (stnT M (xs (4 * k + 1)))), (0, .ref b), (1, .ref (ja 8 0)), (2, .ref (ma 0)), (3, .ref oa), (4, .int (nI (4 * k)))]) hx hb dW_406 hl (by decide) rfl (fun ls hl => ?_)
  exact lw_tail hC hF hW hrw.1 hv hl hcs dW_408 dW_409 dW_412 dW_414 dW_419 dW_421 dW_424 dW_425 dW_426 dW_427 dW_429 dW_430 dW_431 dW_436 (by decide) (kk _ E1 ja1 v1 H locs _ _ ls hW hI1 hCE1 hLB1 (lv_sub hl [2, 3, 4, 5, 6] rfl))
set_option maxHeartbeats 4000000 in
set_option maxRecDepth 100000 in
theorem lc_addTray (hC : CallFix p m c code 7 s #[Value.ref b] BIG RL) (hF : LF l s G d0 mi ma oa b L xs) (hi : 4 * k + 4 ≤ L) (hW : LW s G d0 ma oa x0 M M E ja v H locs) (hI : INV k M) (hCE : CE M E) (hLB : LB cells slots k M) (hl : lv_has ls 7 [(0, .ref b), (1, .ref x0), (2, .ref (ma 0)), (3, .ref oa), (4, .int (nI (4 * k)))])
    (kk : ∀ (M1 : MS) (E1 : ES) (ja1 : Nat → Nat → Nat) (v1 : Int64) (H1 : Heap) (locs1 : List Loc) (cells1 slots1 : Nat) (ls1 : Array Slot), LW s G d0 ma oa x0 M1 M1 E1 ja1 v1 H1 locs1 → INV (k + 1) M1 → CE M1 E1 → LB cells1 slots1 (k + 1) M1 → lv_has ls1 7 [(0, .ref b), (1, .ref x0), (2, .ref (ma 0)), (3, .ref oa), (4, .int (nI (4 * k)))] → W p l e room_1 s m #[Value.ref b] below meth c H1 locs1 cells1 slots1 Q (F0 m 1981 ls1 [])) : W p l e room_1 s m #[Value.ref b] below meth c H locs cells slots Q (F0 m 439 ls []) := by
  have hx := hC.1
  have hb := hC.2.1
  have hK := hF.1.1
  obtain ⟨z0, hz0⟩ : ∃ z, z = ja 8 0 := ⟨_, rfl⟩
  have hx0 : x0 = ja 8 0 := hW.2.1.symm
  subst hx0
  have hL := hF.2.2.2.2.2.1
  have hmI := hF.2.2.2.2.2.2.2.1
  have hl9 := hF.2.2.2.2.2.2.1
  have hRo : lR s ma oa oa := Or.inr (Or.inr rfl)
  have hk9 : k ≤ 511 := by omega
  refine lv_aload_n hx hb dW_439 rfl (lv_at hl 1 rfl) ?_
  refine lw_arg (k := 1) hC hF hW.2.2.2.2 (by omega) (lv_sub hl [0, 4] rfl) (by decide) dW_440 dW_441 dW_443 dW_444 dW_445 ?_
  refine lw_arg (k := 2) hC hF hW.2.2.2.2 (by omega) (lv_sub hl [0, 4] rfl) (by decide) dW_446 dW_447 dW_449 dW_450 dW_451 ?_
  refine lw_arg (k := 3) hC hF hW.2.2.2.2 (by omega) (lv_sub hl [0, 4] rfl) (by decide) dW_452 dW_453 dW_455 dW_456 dW_457 ?_
  refine lv_aload_n hx hb dW_458 rfl (lv_at hl 3 rfl) ?_
  have hrw := rw_tray M (xs (4 * k + 1)) (xs (4 * k + 2)) (xs (4 * k + 3))
  have hLB1 : LB (cells + 2) (slots + 72) (k + 1) (trayF M (xs (4 * k + 1)) (xs (4 * k + 2)) (xs (4 * k + 3))) := hLB.up (mc := 2) (ms := 72) hrw.2.1 hrw.2.2 (by omega) (by omega)
  have hcs : cells + 2 ≤ 601024 ∧ slots + 72 ≤ 7293034 := (hLB.up (M' := M) (mc := 2) (ms := 72) rfl rfl (by omega) (by omega)).room hI (by omega)
  refine lw_wr hF hW (run_SH hC (lL_addTray l G d0 mi (lR s ma oa) ja M E oa v (xs (4 * k + 1)) (xs (4 * k + 2)) (xs (4 * k + 3)) k hI hCE (by omega) hRo hl9) (As := [.ref (ja 8 0), .int (xs (4 * k + 1)), .int (xs (4 * k + 2)), .int (xs (4 * k + 3)), .ref oa]) (rest := []) rfl rfl ml_L_130 sm_L_addTray ini_L cw_L_addTray (show nArgs yL_addTray 5 from ⟨by decide, by decide, by decide +kernel⟩) lJ_blind (LW.pre hF hW) hl.1 (Nat.le_of_ble_eq_true rfl) ⟨Nat.le_of_ble_eq_true rfl, Nat.le_of_ble_eq_true rfl⟩ ⟨hcs.1, hcs.2⟩ rfl dW_459) (fun E1 ja1 v1 H locs hW hv hCE1 hI1 => ?_)
  refine lv_istore (lv' := [(5, .int (trayT M (xs (4 * k + 1)) (xs (4 * k + 2)) (xs (4 * k + 3)))), (0, .ref b), (1, .ref (ja 8 0)), (2, .ref (ma 0)), (3, .ref oa), (4, .int (nI (4 * k)))]) hx hb dW_462 hl (by decide) rfl (fun ls hl => ?_)
  refine lv_aload_n hx hb dW_464 rfl (lv_at hl 3 rfl) ?_
  refine lw_arg (k := 1) hC hF hW.2.2.2.2 (by omega) (lv_sub hl [1, 5] rfl) (by decide) dW_465 dW_466 dW_468 dW_469 dW_470 ?_
  refine lw_arg (k := 2) hC hF hW.2.2.2.2 (by omega) (lv_sub hl [1, 5] rfl) (by decide) dW_471 dW_472 dW_474 dW_475 dW_476 ?_
  refine lw_arg (k := 3) hC hF hW.2.2.2.2 (by omega) (lv_sub hl [1, 5] rfl) (by decide) dW_477 dW_478 dW_480 dW_481 dW_482 ?_
  refine lw_ri (M' := trayF M (xs (4 * k + 1)) (xs (4 * k + 2)) (xs (4 * k + 3))) (Rr := trayR M (xs (4 * k + 1)) (xs (4 * k + 2)) (xs (4 * k + 3))) hF hW (run_V hC (c9_addTray l G ma M none (xs (4 * k + 1)) (xs (4 * k + 2)) (xs (4 * k + 3)) hmI hI.c) (As := [.int (xs (4 * k + 1)), .int (xs (4 * k + 2)), .int (xs (4 * k + 3))]) (rest := []) rfl rfl ml_L_133 im_X9_addTray se_X9_addTray ini_X9 cd_X9_addTray ⟨rfl, na_X9_addTray⟩ mB_blind (LW.rcv hF hW) (LW.prm hF hW) hl.1 (Nat.le_of_ble_eq_true rfl) ⟨Nat.le_of_ble_eq_true rfl, Nat.le_of_ble_eq_true rfl⟩ ⟨hcs.1, hcs.2⟩ rfl dW_483) (fun H locs hW => ?_)
  refine lv_istore (lv' := [(6, .int (trayR M (xs (4 * k + 1)) (xs (4 * k + 2)) (xs (4 * k + 3)))), (5, .int (trayT M (xs (4 * k + 1)) (xs (4 * k + 2)) (xs (4 * k + 3)))), (0, .ref b), (1, .ref (ja 8 0)), (2, .ref (ma 0)), (3, .ref oa), (4, .int (nI (4 * k)))]) hx hb dW_486 hl (by decide) rfl (fun ls hl => ?_)
  exact lw_tail hC hF hW hrw.1 hv hl hcs dW_488 dW_489 dW_492 dW_494 dW_499 dW_501 dW_504 dW_505 dW_506 dW_507 dW_509 dW_510 dW_511 dW_516 (by decide) (kk _ E1 ja1 v1 H locs _ _ ls hW hI1 hCE1 hLB1 (lv_sub hl [2, 3, 4, 5, 6] rfl))
set_option maxHeartbeats 4000000 in
set_option maxRecDepth 100000 in
theorem lc_fill (hC : CallFix p m c code 7 s #[Value.ref b] BIG RL) (hF : LF l s G d0 mi ma oa b L xs) (hi : 4 * k + 4 ≤ L) (hW : LW s G d0 ma oa x0 M M E ja v H locs) (hI : INV k M) (hCE : CE M E) (hLB : LB cells slots k M) (hl : lv_has ls 7 [(0, .ref b), (1, .ref x0), (2, .ref (ma 0)), (3, .ref oa), (4, .int (nI (4 * k)))])
    (kk : ∀ (M1 : MS) (E1 : ES) (ja1 : Nat → Nat → Nat) (v1 : Int64) (H1 : Heap) (locs1 : List Loc) (cells1 slots1 : Nat) (ls1 : Array Slot), LW s G d0 ma oa x0 M1 M1 E1 ja1 v1 H1 locs1 → INV (k + 1) M1 → CE M1 E1 → LB cells1 slots1 (k + 1) M1 → lv_has ls1 7 [(0, .ref b), (1, .ref x0), (2, .ref (ma 0)), (3, .ref oa), (4, .int (nI (4 * k)))] → W p l e room_1 s m #[Value.ref b] below meth c H1 locs1 cells1 slots1 Q (F0 m 1981 ls1 [])) : W p l e room_1 s m #[Value.ref b] below meth c H locs cells slots Q (F0 m 519 ls []) := by
  have hx := hC.1
  have hb := hC.2.1
  have hK := hF.1.1
  obtain ⟨z0, hz0⟩ : ∃ z, z = ja 8 0 := ⟨_, rfl⟩
  have hx0 : x0 = ja 8 0 := hW.2.1.symm
  subst hx0
  have hL := hF.2.2.2.2.2.1
  have hmI := hF.2.2.2.2.2.2.2.1
  have hl9 := hF.2.2.2.2.2.2.1
  have hRo : lR s ma oa oa := Or.inr (Or.inr rfl)
  have hk9 : k ≤ 511 := by omega
  refine lv_aload_n hx hb dW_519 rfl (lv_at hl 1 rfl) ?_
  refine lw_arg (k := 1) hC hF hW.2.2.2.2 (by omega) (lv_sub hl [0, 4] rfl) (by decide) dW_520 dW_521 dW_523 dW_524 dW_525 ?_
  refine lw_arg (k := 2) hC hF hW.2.2.2.2 (by omega) (lv_sub hl [0, 4] rfl) (by decide) dW_526 dW_527 dW_529 dW_530 dW_531 ?_
  refine lv_aload_n hx hb dW_532 rfl (lv_at hl 3 rfl) ?_
  have hrw := rw_fill M (xs (4 * k + 1)) (xs (4 * k + 2))
  have hLB1 : LB (cells + 1) (slots + 6) (k + 1) (fillF M (xs (4 * k + 1)) (xs (4 * k + 2))) := hLB.up (mc := 1) (ms := 6) hrw.2.1 hrw.2.2 (by omega) (by omega)
  have hcs : cells + 1 ≤ 601024 ∧ slots + 6 ≤ 7293034 := (hLB.up (M' := M) (mc := 1) (ms := 6) rfl rfl (by omega) (by omega)).room hI (by omega)
  refine lw_wr hF hW (run_SH hC (lL_fill l G d0 mi (lR s ma oa) ja M E oa v (xs (4 * k + 1)) (xs (4 * k + 2)) k hI hCE (by omega) hRo hl9) (As := [.ref (ja 8 0), .int (xs (4 * k + 1)), .int (xs (4 * k + 2)), .ref oa]) (rest := []) rfl rfl ml_L_134 sm_L_fill ini_L cw_L_fill (show nArgs yL_fill 4 from ⟨by decide, by decide, by decide +kernel⟩) lJ_blind (LW.pre hF hW) hl.1 (Nat.le_of_ble_eq_true rfl) ⟨Nat.le_of_ble_eq_true rfl, Nat.le_of_ble_eq_true rfl⟩ ⟨hcs.1, hcs.2⟩ rfl dW_533) (fun E1 ja1 v1 H locs hW hv hCE1 hI1 => ?_)
  refine lv_istore (lv' := [(5, .int (fillT M (xs (4 * k + 1)) (xs (4 * k + 2)))), (0, .ref b), (1, .ref (ja 8 0)), (2, .ref (ma 0)), (3, .ref oa), (4, .int (nI (4 * k)))]) hx hb dW_536 hl (by decide) rfl (fun ls hl => ?_)
  refine lv_aload_n hx hb dW_538 rfl (lv_at hl 3 rfl) ?_
  refine lw_arg (k := 1) hC hF hW.2.2.2.2 (by omega) (lv_sub hl [1, 5] rfl) (by decide) dW_539 dW_540 dW_542 dW_543 dW_544 ?_
  refine lw_arg (k := 2) hC hF hW.2.2.2.2 (by omega) (lv_sub hl [1, 5] rfl) (by decide) dW_545 dW_546 dW_548 dW_549 dW_550 ?_
  refine lw_ri (M' := fillF M (xs (4 * k + 1)) (xs (4 * k + 2))) (Rr := fillR M (xs (4 * k + 1)) (xs (4 * k + 2))) hF hW (run_V hC (c9_fill l G ma M none (xs (4 * k + 1)) (xs (4 * k + 2)) hmI hI.c (fun t ht => (hI.f.2.1 t ht).2)) (As := [.int (xs (4 * k + 1)), .int (xs (4 * k + 2))]) (rest := []) rfl rfl ml_L_136 im_X9_fill se_X9_fill ini_X9 cd_X9_fill ⟨rfl, na_X9_fill⟩ mB_blind (LW.rcv hF hW) (LW.prm hF hW) hl.1 (Nat.le_of_ble_eq_true rfl) ⟨Nat.le_of_ble_eq_true rfl, Nat.le_of_ble_eq_true rfl⟩ ⟨hcs.1, hcs.2⟩ rfl dW_551) (fun H locs hW => ?_)
  refine lv_istore (lv' := [(6, .int (fillR M (xs (4 * k + 1)) (xs (4 * k + 2)))), (5, .int (fillT M (xs (4 * k + 1)) (xs (4 * k + 2)))), (0, .ref b), (1, .ref (ja 8 0)), (2, .ref (ma 0)), (3, .ref oa), (4, .int (nI (4 * k)))]) hx hb dW_554 hl (by decide) rfl (fun ls hl => ?_)
  exact lw_tail hC hF hW hrw.1 hv hl hcs dW_556 dW_557 dW_560 dW_562 dW_567 dW_569 dW_572 dW_573 dW_574 dW_575 dW_577 dW_578 dW_579 dW_584 (by decide) (kk _ E1 ja1 v1 H locs _ _ ls hW hI1 hCE1 hLB1 (lv_sub hl [2, 3, 4, 5, 6] rfl))
set_option maxHeartbeats 4000000 in
set_option maxRecDepth 100000 in
theorem lc_addOrder (hC : CallFix p m c code 7 s #[Value.ref b] BIG RL) (hF : LF l s G d0 mi ma oa b L xs) (hi : 4 * k + 4 ≤ L) (hW : LW s G d0 ma oa x0 M M E ja v H locs) (hI : INV k M) (hCE : CE M E) (hLB : LB cells slots k M) (hl : lv_has ls 7 [(0, .ref b), (1, .ref x0), (2, .ref (ma 0)), (3, .ref oa), (4, .int (nI (4 * k)))])
    (kk : ∀ (M1 : MS) (E1 : ES) (ja1 : Nat → Nat → Nat) (v1 : Int64) (H1 : Heap) (locs1 : List Loc) (cells1 slots1 : Nat) (ls1 : Array Slot), LW s G d0 ma oa x0 M1 M1 E1 ja1 v1 H1 locs1 → INV (k + 1) M1 → CE M1 E1 → LB cells1 slots1 (k + 1) M1 → lv_has ls1 7 [(0, .ref b), (1, .ref x0), (2, .ref (ma 0)), (3, .ref oa), (4, .int (nI (4 * k)))] → W p l e room_1 s m #[Value.ref b] below meth c H1 locs1 cells1 slots1 Q (F0 m 1981 ls1 [])) : W p l e room_1 s m #[Value.ref b] below meth c H locs cells slots Q (F0 m 587 ls []) := by
  have hx := hC.1
  have hb := hC.2.1
  have hK := hF.1.1
  obtain ⟨z0, hz0⟩ : ∃ z, z = ja 8 0 := ⟨_, rfl⟩
  have hx0 : x0 = ja 8 0 := hW.2.1.symm
  subst hx0
  have hL := hF.2.2.2.2.2.1
  have hmI := hF.2.2.2.2.2.2.2.1
  have hl9 := hF.2.2.2.2.2.2.1
  have hRo : lR s ma oa oa := Or.inr (Or.inr rfl)
  have hk9 : k ≤ 511 := by omega
  refine lv_aload_n hx hb dW_587 rfl (lv_at hl 1 rfl) ?_
  refine lv_aload_n hx hb dW_588 rfl (lv_at hl 3 rfl) ?_
  have hrw := rw_ord M 
  have hLB1 : LB (cells + 3) (slots + 72) (k + 1) (ordF M) := hLB.up (mc := 3) (ms := 72) hrw.2.1 hrw.2.2 (by omega) (by omega)
  have hcs : cells + 3 ≤ 601024 ∧ slots + 72 ≤ 7293034 := (hLB.up (M' := M) (mc := 3) (ms := 72) rfl rfl (by omega) (by omega)).room hI (by omega)
  refine lw_wr hF hW (run_SH hC (lL_addOrder l G d0 mi (lR s ma oa) ja M E oa v  k hI hCE (by omega) hRo hl9) (As := [.ref (ja 8 0), .ref oa]) (rest := []) rfl rfl ml_L_137 sm_L_addOrder ini_L cw_L_addOrder (show nArgs yL_addOrder 2 from ⟨by decide, by decide, by decide +kernel⟩) lJ_blind (LW.pre hF hW) hl.1 (Nat.le_of_ble_eq_true rfl) ⟨Nat.le_of_ble_eq_true rfl, Nat.le_of_ble_eq_true rfl⟩ ⟨hcs.1, hcs.2⟩ rfl dW_589) (fun E1 ja1 v1 H locs hW hv hCE1 hI1 => ?_)
  refine lv_istore (lv' := [(5, .int (ordT M)), (0, .ref b), (1, .ref (ja 8 0)), (2, .ref (ma 0)), (3, .ref oa), (4, .int (nI (4 * k)))]) hx hb dW_592 hl (by decide) rfl (fun ls hl => ?_)
  refine lv_aload_n hx hb dW_594 rfl (lv_at hl 3 rfl) ?_
  refine lw_ri (M' := ordF M) (Rr := ordR M) hF hW (run_V hC (c9_addOrder l G ma M none  hmI hI.c) (As := []) (rest := []) rfl rfl ml_L_140 im_X9_addOrder se_X9_addOrder ini_X9 cd_X9_addOrder ⟨rfl, na_X9_addOrder⟩ mB_blind (LW.rcv hF hW) (LW.prm hF hW) hl.1 (Nat.le_of_ble_eq_true rfl) ⟨Nat.le_of_ble_eq_true rfl, Nat.le_of_ble_eq_true rfl⟩ ⟨hcs.1, hcs.2⟩ rfl dW_595) (fun H locs hW => ?_)
  refine lv_istore (lv' := [(6, .int (ordR M)), (5, .int (ordT M)), (0, .ref b), (1, .ref (ja 8 0)), (2, .ref (ma 0)), (3, .ref oa), (4, .int (nI (4 * k)))]) hx hb dW_598 hl (by decide) rfl (fun ls hl => ?_)
  exact lw_tail hC hF hW hrw.1 hv hl hcs dW_600 dW_601 dW_604 dW_606 dW_611 dW_613 dW_616 dW_617 dW_618 dW_619 dW_621 dW_622 dW_623 dW_628 (by decide) (kk _ E1 ja1 v1 H locs _ _ ls hW hI1 hCE1 hLB1 (lv_sub hl [2, 3, 4, 5, 6] rfl))
set_option maxHeartbeats 4000000 in
set_option maxRecDepth 100000 in
theorem lc_addLine (hC : CallFix p m c code 7 s #[Value.ref b] BIG RL) (hF : LF l s G d0 mi ma oa b L xs) (hi : 4 * k + 4 ≤ L) (hW : LW s G d0 ma oa x0 M M E ja v H locs) (hI : INV k M) (hCE : CE M E) (hLB : LB cells slots k M) (hl : lv_has ls 7 [(0, .ref b), (1, .ref x0), (2, .ref (ma 0)), (3, .ref oa), (4, .int (nI (4 * k)))])
    (kk : ∀ (M1 : MS) (E1 : ES) (ja1 : Nat → Nat → Nat) (v1 : Int64) (H1 : Heap) (locs1 : List Loc) (cells1 slots1 : Nat) (ls1 : Array Slot), LW s G d0 ma oa x0 M1 M1 E1 ja1 v1 H1 locs1 → INV (k + 1) M1 → CE M1 E1 → LB cells1 slots1 (k + 1) M1 → lv_has ls1 7 [(0, .ref b), (1, .ref x0), (2, .ref (ma 0)), (3, .ref oa), (4, .int (nI (4 * k)))] → W p l e room_1 s m #[Value.ref b] below meth c H1 locs1 cells1 slots1 Q (F0 m 1981 ls1 [])) : W p l e room_1 s m #[Value.ref b] below meth c H locs cells slots Q (F0 m 631 ls []) := by
  have hx := hC.1
  have hb := hC.2.1
  have hK := hF.1.1
  obtain ⟨z0, hz0⟩ : ∃ z, z = ja 8 0 := ⟨_, rfl⟩
  have hx0 : x0 = ja 8 0 := hW.2.1.symm
  subst hx0
  have hL := hF.2.2.2.2.2.1
  have hmI := hF.2.2.2.2.2.2.2.1
  have hl9 := hF.2.2.2.2.2.2.1
  have hRo : lR s ma oa oa := Or.inr (Or.inr rfl)
  have hk9 : k ≤ 511 := by omega
  refine lv_aload_n hx hb dW_631 rfl (lv_at hl 1 rfl) ?_
  refine lw_arg (k := 1) hC hF hW.2.2.2.2 (by omega) (lv_sub hl [0, 4] rfl) (by decide) dW_632 dW_633 dW_635 dW_636 dW_637 ?_
  refine lw_arg (k := 2) hC hF hW.2.2.2.2 (by omega) (lv_sub hl [0, 4] rfl) (by decide) dW_638 dW_639 dW_641 dW_642 dW_643 ?_
  refine lw_arg (k := 3) hC hF hW.2.2.2.2 (by omega) (lv_sub hl [0, 4] rfl) (by decide) dW_644 dW_645 dW_647 dW_648 dW_649 ?_
  refine lv_aload_n hx hb dW_650 rfl (lv_at hl 3 rfl) ?_
  have hrw := rw_line M (xs (4 * k + 1)) (xs (4 * k + 2)) (xs (4 * k + 3))
  have hLB1 : LB (cells + 2) (slots + 71) (k + 1) (lineF M (xs (4 * k + 1)) (xs (4 * k + 2)) (xs (4 * k + 3))) := hLB.up (mc := 2) (ms := 71) hrw.2.1 hrw.2.2 (by omega) (by omega)
  have hcs : cells + 2 ≤ 601024 ∧ slots + 71 ≤ 7293034 := (hLB.up (M' := M) (mc := 2) (ms := 71) rfl rfl (by omega) (by omega)).room hI (by omega)
  refine lw_wr hF hW (run_SH hC (lL_addLine l G d0 mi (lR s ma oa) ja M E oa v (xs (4 * k + 1)) (xs (4 * k + 2)) (xs (4 * k + 3)) k hI hCE (by omega) hRo hl9) (As := [.ref (ja 8 0), .int (xs (4 * k + 1)), .int (xs (4 * k + 2)), .int (xs (4 * k + 3)), .ref oa]) (rest := []) rfl rfl ml_L_141 sm_L_addLine ini_L cw_L_addLine (show nArgs yL_addLine 5 from ⟨by decide, by decide, by decide +kernel⟩) lJ_blind (LW.pre hF hW) hl.1 (Nat.le_of_ble_eq_true rfl) ⟨Nat.le_of_ble_eq_true rfl, Nat.le_of_ble_eq_true rfl⟩ ⟨hcs.1, hcs.2⟩ rfl dW_651) (fun E1 ja1 v1 H locs hW hv hCE1 hI1 => ?_)
  refine lv_istore (lv' := [(5, .int (lineT M (xs (4 * k + 1)) (xs (4 * k + 2)) (xs (4 * k + 3)))), (0, .ref b), (1, .ref (ja 8 0)), (2, .ref (ma 0)), (3, .ref oa), (4, .int (nI (4 * k)))]) hx hb dW_654 hl (by decide) rfl (fun ls hl => ?_)
  refine lv_aload_n hx hb dW_656 rfl (lv_at hl 3 rfl) ?_
  refine lw_arg (k := 1) hC hF hW.2.2.2.2 (by omega) (lv_sub hl [1, 5] rfl) (by decide) dW_657 dW_658 dW_660 dW_661 dW_662 ?_
  refine lw_arg (k := 2) hC hF hW.2.2.2.2 (by omega) (lv_sub hl [1, 5] rfl) (by decide) dW_663 dW_664 dW_666 dW_667 dW_668 ?_
  refine lw_arg (k := 3) hC hF hW.2.2.2.2 (by omega) (lv_sub hl [1, 5] rfl) (by decide) dW_669 dW_670 dW_672 dW_673 dW_674 ?_
  refine lw_ri (M' := lineF M (xs (4 * k + 1)) (xs (4 * k + 2)) (xs (4 * k + 3))) (Rr := lineR M (xs (4 * k + 1)) (xs (4 * k + 2)) (xs (4 * k + 3))) hF hW (run_V hC (c9_addLine l G ma M none (xs (4 * k + 1)) (xs (4 * k + 2)) (xs (4 * k + 3)) hmI hI.c) (As := [.int (xs (4 * k + 1)), .int (xs (4 * k + 2)), .int (xs (4 * k + 3))]) (rest := []) rfl rfl ml_L_143 im_X9_addLine se_X9_addLine ini_X9 cd_X9_addLine ⟨rfl, na_X9_addLine⟩ mB_blind (LW.rcv hF hW) (LW.prm hF hW) hl.1 (Nat.le_of_ble_eq_true rfl) ⟨Nat.le_of_ble_eq_true rfl, Nat.le_of_ble_eq_true rfl⟩ ⟨hcs.1, hcs.2⟩ rfl dW_675) (fun H locs hW => ?_)
  refine lv_istore (lv' := [(6, .int (lineR M (xs (4 * k + 1)) (xs (4 * k + 2)) (xs (4 * k + 3)))), (5, .int (lineT M (xs (4 * k + 1)) (xs (4 * k + 2)) (xs (4 * k + 3)))), (0, .ref b), (1, .ref (ja 8 0)), (2, .ref (ma 0)), (3, .ref oa), (4, .int (nI (4 * k)))]) hx hb dW_678 hl (by decide) rfl (fun ls hl => ?_)
  exact lw_tail hC hF hW hrw.1 hv hl hcs dW_680 dW_681 dW_684 dW_686 dW_691 dW_693 dW_696 dW_697 dW_698 dW_699 dW_701 dW_702 dW_703 dW_708 (by decide) (kk _ E1 ja1 v1 H locs _ _ ls hW hI1 hCE1 hLB1 (lv_sub hl [2, 3, 4, 5, 6] rfl))
set_option maxHeartbeats 4000000 in
set_option maxRecDepth 100000 in
theorem lc_claim (hC : CallFix p m c code 7 s #[Value.ref b] BIG RL) (hF : LF l s G d0 mi ma oa b L xs) (hi : 4 * k + 4 ≤ L) (hW : LW s G d0 ma oa x0 M M E ja v H locs) (hI : INV k M) (hCE : CE M E) (hLB : LB cells slots k M) (hl : lv_has ls 7 [(0, .ref b), (1, .ref x0), (2, .ref (ma 0)), (3, .ref oa), (4, .int (nI (4 * k)))])
    (kk : ∀ (M1 : MS) (E1 : ES) (ja1 : Nat → Nat → Nat) (v1 : Int64) (H1 : Heap) (locs1 : List Loc) (cells1 slots1 : Nat) (ls1 : Array Slot), LW s G d0 ma oa x0 M1 M1 E1 ja1 v1 H1 locs1 → INV (k + 1) M1 → CE M1 E1 → LB cells1 slots1 (k + 1) M1 → lv_has ls1 7 [(0, .ref b), (1, .ref x0), (2, .ref (ma 0)), (3, .ref oa), (4, .int (nI (4 * k)))] → W p l e room_1 s m #[Value.ref b] below meth c H1 locs1 cells1 slots1 Q (F0 m 1981 ls1 [])) : W p l e room_1 s m #[Value.ref b] below meth c H locs cells slots Q (F0 m 711 ls []) := by
  have hx := hC.1
  have hb := hC.2.1
  have hK := hF.1.1
  obtain ⟨z0, hz0⟩ : ∃ z, z = ja 8 0 := ⟨_, rfl⟩
  have hx0 : x0 = ja 8 0 := hW.2.1.symm
  subst hx0
  have hL := hF.2.2.2.2.2.1
  have hmI := hF.2.2.2.2.2.2.2.1
  have hl9 := hF.2.2.2.2.2.2.1
  have hRo : lR s ma oa oa := Or.inr (Or.inr rfl)
  have hk9 : k ≤ 511 := by omega
  refine lv_aload_n hx hb dW_711 rfl (lv_at hl 1 rfl) ?_
  refine lw_arg (k := 1) hC hF hW.2.2.2.2 (by omega) (lv_sub hl [0, 4] rfl) (by decide) dW_712 dW_713 dW_715 dW_716 dW_717 ?_
  refine lw_arg (k := 2) hC hF hW.2.2.2.2 (by omega) (lv_sub hl [0, 4] rfl) (by decide) dW_718 dW_719 dW_721 dW_722 dW_723 ?_
  refine lw_arg (k := 3) hC hF hW.2.2.2.2 (by omega) (lv_sub hl [0, 4] rfl) (by decide) dW_724 dW_725 dW_727 dW_728 dW_729 ?_
  refine lv_aload_n hx hb dW_730 rfl (lv_at hl 3 rfl) ?_
  have hrw := rw_clm M (xs (4 * k + 1)) (xs (4 * k + 2)) (xs (4 * k + 3))
  have hLB1 : LB (cells + 1) (slots + 67) (k + 1) (clmF M (xs (4 * k + 1)) (xs (4 * k + 2)) (xs (4 * k + 3))) := hLB.up (mc := 1) (ms := 67) hrw.2.1 hrw.2.2 (by omega) (by omega)
  have hcs : cells + 1 ≤ 601024 ∧ slots + 67 ≤ 7293034 := (hLB.up (M' := M) (mc := 1) (ms := 67) rfl rfl (by omega) (by omega)).room hI (by omega)
  refine lw_wr hF hW (run_SH hC (lL_claim l G d0 mi (lR s ma oa) ja M E oa v (xs (4 * k + 1)) (xs (4 * k + 2)) (xs (4 * k + 3)) k hI hCE (by omega) hRo hl9) (As := [.ref (ja 8 0), .int (xs (4 * k + 1)), .int (xs (4 * k + 2)), .int (xs (4 * k + 3)), .ref oa]) (rest := []) rfl rfl ml_L_144 sm_L_claim ini_L cw_L_claim (show nArgs yL_claim 5 from ⟨by decide, by decide, by decide +kernel⟩) lJ_blind (LW.pre hF hW) hl.1 (Nat.le_of_ble_eq_true rfl) ⟨Nat.le_of_ble_eq_true rfl, Nat.le_of_ble_eq_true rfl⟩ ⟨hcs.1, hcs.2⟩ rfl dW_731) (fun E1 ja1 v1 H locs hW hv hCE1 hI1 => ?_)
  refine lv_istore (lv' := [(5, .int (clmT M (xs (4 * k + 1)) (xs (4 * k + 2)) (xs (4 * k + 3)))), (0, .ref b), (1, .ref (ja 8 0)), (2, .ref (ma 0)), (3, .ref oa), (4, .int (nI (4 * k)))]) hx hb dW_734 hl (by decide) rfl (fun ls hl => ?_)
  refine lv_aload_n hx hb dW_736 rfl (lv_at hl 3 rfl) ?_
  refine lw_arg (k := 1) hC hF hW.2.2.2.2 (by omega) (lv_sub hl [1, 5] rfl) (by decide) dW_737 dW_738 dW_740 dW_741 dW_742 ?_
  refine lw_arg (k := 2) hC hF hW.2.2.2.2 (by omega) (lv_sub hl [1, 5] rfl) (by decide) dW_743 dW_744 dW_746 dW_747 dW_748 ?_
  refine lw_arg (k := 3) hC hF hW.2.2.2.2 (by omega) (lv_sub hl [1, 5] rfl) (by decide) dW_749 dW_750 dW_752 dW_753 dW_754 ?_
  refine lw_ri (M' := clmF M (xs (4 * k + 1)) (xs (4 * k + 2)) (xs (4 * k + 3))) (Rr := clmR M (xs (4 * k + 1)) (xs (4 * k + 2)) (xs (4 * k + 3))) hF hW (run_V hC (c9_claim l G ma M none (xs (4 * k + 1)) (xs (4 * k + 2)) (xs (4 * k + 3)) hmI hI.c) (As := [.int (xs (4 * k + 1)), .int (xs (4 * k + 2)), .int (xs (4 * k + 3))]) (rest := []) rfl rfl ml_L_146 im_X9_claim se_X9_claim ini_X9 cd_X9_claim ⟨rfl, na_X9_claim⟩ mB_blind (LW.rcv hF hW) (LW.prm hF hW) hl.1 (Nat.le_of_ble_eq_true rfl) ⟨Nat.le_of_ble_eq_true rfl, Nat.le_of_ble_eq_true rfl⟩ ⟨hcs.1, hcs.2⟩ rfl dW_755) (fun H locs hW => ?_)
  refine lv_istore (lv' := [(6, .int (clmR M (xs (4 * k + 1)) (xs (4 * k + 2)) (xs (4 * k + 3)))), (5, .int (clmT M (xs (4 * k + 1)) (xs (4 * k + 2)) (xs (4 * k + 3)))), (0, .ref b), (1, .ref (ja 8 0)), (2, .ref (ma 0)), (3, .ref oa), (4, .int (nI (4 * k)))]) hx hb dW_758 hl (by decide) rfl (fun ls hl => ?_)
  exact lw_tail hC hF hW hrw.1 hv hl hcs dW_760 dW_761 dW_764 dW_766 dW_771 dW_773 dW_776 dW_777 dW_778 dW_779 dW_781 dW_782 dW_783 dW_788 (by decide) (kk _ E1 ja1 v1 H locs _ _ ls hW hI1 hCE1 hLB1 (lv_sub hl [2, 3, 4, 5, 6] rfl))
set_option maxHeartbeats 4000000 in
set_option maxRecDepth 100000 in
theorem lc_giveUp (hC : CallFix p m c code 7 s #[Value.ref b] BIG RL) (hF : LF l s G d0 mi ma oa b L xs) (hi : 4 * k + 4 ≤ L) (hW : LW s G d0 ma oa x0 M M E ja v H locs) (hI : INV k M) (hCE : CE M E) (hLB : LB cells slots k M) (hl : lv_has ls 7 [(0, .ref b), (1, .ref x0), (2, .ref (ma 0)), (3, .ref oa), (4, .int (nI (4 * k)))])
    (kk : ∀ (M1 : MS) (E1 : ES) (ja1 : Nat → Nat → Nat) (v1 : Int64) (H1 : Heap) (locs1 : List Loc) (cells1 slots1 : Nat) (ls1 : Array Slot), LW s G d0 ma oa x0 M1 M1 E1 ja1 v1 H1 locs1 → INV (k + 1) M1 → CE M1 E1 → LB cells1 slots1 (k + 1) M1 → lv_has ls1 7 [(0, .ref b), (1, .ref x0), (2, .ref (ma 0)), (3, .ref oa), (4, .int (nI (4 * k)))] → W p l e room_1 s m #[Value.ref b] below meth c H1 locs1 cells1 slots1 Q (F0 m 1981 ls1 [])) : W p l e room_1 s m #[Value.ref b] below meth c H locs cells slots Q (F0 m 791 ls []) := by
  have hx := hC.1
  have hb := hC.2.1
  have hK := hF.1.1
  obtain ⟨z0, hz0⟩ : ∃ z, z = ja 8 0 := ⟨_, rfl⟩
  have hx0 : x0 = ja 8 0 := hW.2.1.symm
  subst hx0
  have hL := hF.2.2.2.2.2.1
  have hmI := hF.2.2.2.2.2.2.2.1
  have hl9 := hF.2.2.2.2.2.2.1
  have hRo : lR s ma oa oa := Or.inr (Or.inr rfl)
  have hk9 : k ≤ 511 := by omega
  refine lv_aload_n hx hb dW_791 rfl (lv_at hl 1 rfl) ?_
  refine lw_arg (k := 1) hC hF hW.2.2.2.2 (by omega) (lv_sub hl [0, 4] rfl) (by decide) dW_792 dW_793 dW_795 dW_796 dW_797 ?_
  refine lw_arg (k := 2) hC hF hW.2.2.2.2 (by omega) (lv_sub hl [0, 4] rfl) (by decide) dW_798 dW_799 dW_801 dW_802 dW_803 ?_
  refine lv_aload_n hx hb dW_804 rfl (lv_at hl 3 rfl) ?_
  have hrw := rw_gv M (xs (4 * k + 1)) (xs (4 * k + 2))
  have hLB1 : LB (cells + 1) (slots + 6) (k + 1) (gvF M (xs (4 * k + 1)) (xs (4 * k + 2))) := hLB.up (mc := 1) (ms := 6) hrw.2.1 hrw.2.2 (by omega) (by omega)
  have hcs : cells + 1 ≤ 601024 ∧ slots + 6 ≤ 7293034 := (hLB.up (M' := M) (mc := 1) (ms := 6) rfl rfl (by omega) (by omega)).room hI (by omega)
  refine lw_wr hF hW (run_SH hC (lL_giveUp l G d0 mi (lR s ma oa) ja M E oa v (xs (4 * k + 1)) (xs (4 * k + 2)) k hI hCE (by omega) hRo hl9) (As := [.ref (ja 8 0), .int (xs (4 * k + 1)), .int (xs (4 * k + 2)), .ref oa]) (rest := []) rfl rfl ml_L_147 sm_L_giveUp ini_L cw_L_giveUp (show nArgs yL_giveUp 4 from ⟨by decide, by decide, by decide +kernel⟩) lJ_blind (LW.pre hF hW) hl.1 (Nat.le_of_ble_eq_true rfl) ⟨Nat.le_of_ble_eq_true rfl, Nat.le_of_ble_eq_true rfl⟩ ⟨hcs.1, hcs.2⟩ rfl dW_805) (fun E1 ja1 v1 H locs hW hv hCE1 hI1 => ?_)
  refine lv_istore (lv' := [(5, .int (gvT M (xs (4 * k + 1)) (xs (4 * k + 2)))), (0, .ref b), (1, .ref (ja 8 0)), (2, .ref (ma 0)), (3, .ref oa), (4, .int (nI (4 * k)))]) hx hb dW_808 hl (by decide) rfl (fun ls hl => ?_)
  refine lv_aload_n hx hb dW_810 rfl (lv_at hl 3 rfl) ?_
  refine lw_arg (k := 1) hC hF hW.2.2.2.2 (by omega) (lv_sub hl [1, 5] rfl) (by decide) dW_811 dW_812 dW_814 dW_815 dW_816 ?_
  refine lw_arg (k := 2) hC hF hW.2.2.2.2 (by omega) (lv_sub hl [1, 5] rfl) (by decide) dW_817 dW_818 dW_820 dW_821 dW_822 ?_
  refine lw_ri (M' := gvF M (xs (4 * k + 1)) (xs (4 * k + 2))) (Rr := gvR M (xs (4 * k + 1)) (xs (4 * k + 2))) hF hW (run_V hC (c9_giveUp l G ma M none (xs (4 * k + 1)) (xs (4 * k + 2)) hmI hI.c) (As := [.int (xs (4 * k + 1)), .int (xs (4 * k + 2))]) (rest := []) rfl rfl ml_L_149 im_X9_giveUp se_X9_giveUp ini_X9 cd_X9_giveUp ⟨rfl, na_X9_giveUp⟩ mB_blind (LW.rcv hF hW) (LW.prm hF hW) hl.1 (Nat.le_of_ble_eq_true rfl) ⟨Nat.le_of_ble_eq_true rfl, Nat.le_of_ble_eq_true rfl⟩ ⟨hcs.1, hcs.2⟩ rfl dW_823) (fun H locs hW => ?_)
  refine lv_istore (lv' := [(6, .int (gvR M (xs (4 * k + 1)) (xs (4 * k + 2)))), (5, .int (gvT M (xs (4 * k + 1)) (xs (4 * k + 2)))), (0, .ref b), (1, .ref (ja 8 0)), (2, .ref (ma 0)), (3, .ref oa), (4, .int (nI (4 * k)))]) hx hb dW_826 hl (by decide) rfl (fun ls hl => ?_)
  exact lw_tail hC hF hW hrw.1 hv hl hcs dW_828 dW_829 dW_832 dW_834 dW_839 dW_841 dW_844 dW_845 dW_846 dW_847 dW_849 dW_850 dW_851 dW_856 (by decide) (kk _ E1 ja1 v1 H locs _ _ ls hW hI1 hCE1 hLB1 (lv_sub hl [2, 3, 4, 5, 6] rfl))
set_option maxHeartbeats 4000000 in
set_option maxRecDepth 100000 in
theorem lc_addRobot (hC : CallFix p m c code 7 s #[Value.ref b] BIG RL) (hF : LF l s G d0 mi ma oa b L xs) (hi : 4 * k + 4 ≤ L) (hW : LW s G d0 ma oa x0 M M E ja v H locs) (hI : INV k M) (hCE : CE M E) (hLB : LB cells slots k M) (hl : lv_has ls 7 [(0, .ref b), (1, .ref x0), (2, .ref (ma 0)), (3, .ref oa), (4, .int (nI (4 * k)))])
    (kk : ∀ (M1 : MS) (E1 : ES) (ja1 : Nat → Nat → Nat) (v1 : Int64) (H1 : Heap) (locs1 : List Loc) (cells1 slots1 : Nat) (ls1 : Array Slot), LW s G d0 ma oa x0 M1 M1 E1 ja1 v1 H1 locs1 → INV (k + 1) M1 → CE M1 E1 → LB cells1 slots1 (k + 1) M1 → lv_has ls1 7 [(0, .ref b), (1, .ref x0), (2, .ref (ma 0)), (3, .ref oa), (4, .int (nI (4 * k)))] → W p l e room_1 s m #[Value.ref b] below meth c H1 locs1 cells1 slots1 Q (F0 m 1981 ls1 [])) : W p l e room_1 s m #[Value.ref b] below meth c H locs cells slots Q (F0 m 1107 ls []) := by
  have hx := hC.1
  have hb := hC.2.1
  have hK := hF.1.1
  obtain ⟨z0, hz0⟩ : ∃ z, z = ja 8 0 := ⟨_, rfl⟩
  have hx0 : x0 = ja 8 0 := hW.2.1.symm
  subst hx0
  have hL := hF.2.2.2.2.2.1
  have hmI := hF.2.2.2.2.2.2.2.1
  have hl9 := hF.2.2.2.2.2.2.1
  have hRo : lR s ma oa oa := Or.inr (Or.inr rfl)
  have hk9 : k ≤ 511 := by omega
  refine lv_aload_n hx hb dW_1107 rfl (lv_at hl 1 rfl) ?_
  refine lw_arg (k := 1) hC hF hW.2.2.2.2 (by omega) (lv_sub hl [0, 4] rfl) (by decide) dW_1108 dW_1109 dW_1111 dW_1112 dW_1113 ?_
  refine lw_arg (k := 2) hC hF hW.2.2.2.2 (by omega) (lv_sub hl [0, 4] rfl) (by decide) dW_1114 dW_1115 dW_1117 dW_1118 dW_1119 ?_
  refine lv_aload_n hx hb dW_1120 rfl (lv_at hl 3 rfl) ?_
  have hrw := rw_rob M (xs (4 * k + 1)) (xs (4 * k + 2))
  have hLB1 : LB (cells + 2) (slots + 76) (k + 1) (robF M (xs (4 * k + 1)) (xs (4 * k + 2))) := hLB.up (mc := 2) (ms := 76) hrw.2.1 hrw.2.2 (by omega) (by omega)
  have hcs : cells + 2 ≤ 601024 ∧ slots + 76 ≤ 7293034 := (hLB.up (M' := M) (mc := 2) (ms := 76) rfl rfl (by omega) (by omega)).room hI (by omega)
  refine lw_wr hF hW (run_SH hC (lL_addRobot l G d0 mi (lR s ma oa) ja M E oa v (xs (4 * k + 1)) (xs (4 * k + 2)) k hI hCE (by omega) hRo hl9) (As := [.ref (ja 8 0), .int (xs (4 * k + 1)), .int (xs (4 * k + 2)), .ref oa]) (rest := []) rfl rfl ml_L_162 sm_L_addRobot ini_L cw_L_addRobot (show nArgs yL_addRobot 4 from ⟨by decide, by decide, by decide +kernel⟩) lJ_blind (LW.pre hF hW) hl.1 (Nat.le_of_ble_eq_true rfl) ⟨Nat.le_of_ble_eq_true rfl, Nat.le_of_ble_eq_true rfl⟩ ⟨hcs.1, hcs.2⟩ rfl dW_1121) (fun E1 ja1 v1 H locs hW hv hCE1 hI1 => ?_)
  refine lv_istore (lv' := [(5, .int (robT M (xs (4 * k + 1)) (xs (4 * k + 2)))), (0, .ref b), (1, .ref (ja 8 0)), (2, .ref (ma 0)), (3, .ref oa), (4, .int (nI (4 * k)))]) hx hb dW_1124 hl (by decide) rfl (fun ls hl => ?_)
  refine lv_aload_n hx hb dW_1126 rfl (lv_at hl 3 rfl) ?_
  refine lw_arg (k := 1) hC hF hW.2.2.2.2 (by omega) (lv_sub hl [1, 5] rfl) (by decide) dW_1127 dW_1128 dW_1130 dW_1131 dW_1132 ?_
  refine lw_arg (k := 2) hC hF hW.2.2.2.2 (by omega) (lv_sub hl [1, 5] rfl) (by decide) dW_1133 dW_1134 dW_1136 dW_1137 dW_1138 ?_
  refine lw_ri (M' := robF M (xs (4 * k + 1)) (xs (4 * k + 2))) (Rr := robR M (xs (4 * k + 1)) (xs (4 * k + 2))) hF hW (run_V hC (c9_addRobot l G ma M none (xs (4 * k + 1)) (xs (4 * k + 2)) hmI hI.c) (As := [.int (xs (4 * k + 1)), .int (xs (4 * k + 2))]) (rest := []) rfl rfl ml_L_164 im_X9_addRobot se_X9_addRobot ini_X9 cd_X9_addRobot ⟨rfl, na_X9_addRobot⟩ mB_blind (LW.rcv hF hW) (LW.prm hF hW) hl.1 (Nat.le_of_ble_eq_true rfl) ⟨Nat.le_of_ble_eq_true rfl, Nat.le_of_ble_eq_true rfl⟩ ⟨hcs.1, hcs.2⟩ rfl dW_1139) (fun H locs hW => ?_)
  refine lv_istore (lv' := [(6, .int (robR M (xs (4 * k + 1)) (xs (4 * k + 2)))), (5, .int (robT M (xs (4 * k + 1)) (xs (4 * k + 2)))), (0, .ref b), (1, .ref (ja 8 0)), (2, .ref (ma 0)), (3, .ref oa), (4, .int (nI (4 * k)))]) hx hb dW_1142 hl (by decide) rfl (fun ls hl => ?_)
  exact lw_tail hC hF hW hrw.1 hv hl hcs dW_1144 dW_1145 dW_1148 dW_1150 dW_1155 dW_1157 dW_1160 dW_1161 dW_1162 dW_1163 dW_1165 dW_1166 dW_1167 dW_1172 (by decide) (kk _ E1 ja1 v1 H locs _ _ ls hW hI1 hCE1 hLB1 (lv_sub hl [2, 3, 4, 5, 6] rfl))
set_option maxHeartbeats 4000000 in
set_option maxRecDepth 100000 in
theorem lc_die (hC : CallFix p m c code 7 s #[Value.ref b] BIG RL) (hF : LF l s G d0 mi ma oa b L xs) (hi : 4 * k + 4 ≤ L) (hW : LW s G d0 ma oa x0 M M E ja v H locs) (hI : INV k M) (hCE : CE M E) (hLB : LB cells slots k M) (hl : lv_has ls 7 [(0, .ref b), (1, .ref x0), (2, .ref (ma 0)), (3, .ref oa), (4, .int (nI (4 * k)))])
    (kk : ∀ (M1 : MS) (E1 : ES) (ja1 : Nat → Nat → Nat) (v1 : Int64) (H1 : Heap) (locs1 : List Loc) (cells1 slots1 : Nat) (ls1 : Array Slot), LW s G d0 ma oa x0 M1 M1 E1 ja1 v1 H1 locs1 → INV (k + 1) M1 → CE M1 E1 → LB cells1 slots1 (k + 1) M1 → lv_has ls1 7 [(0, .ref b), (1, .ref x0), (2, .ref (ma 0)), (3, .ref oa), (4, .int (nI (4 * k)))] → W p l e room_1 s m #[Value.ref b] below meth c H1 locs1 cells1 slots1 Q (F0 m 1981 ls1 [])) : W p l e room_1 s m #[Value.ref b] below meth c H locs cells slots Q (F0 m 1175 ls []) := by
  have hx := hC.1
  have hb := hC.2.1
  have hK := hF.1.1
  obtain ⟨z0, hz0⟩ : ∃ z, z = ja 8 0 := ⟨_, rfl⟩
  have hx0 : x0 = ja 8 0 := hW.2.1.symm
  subst hx0
  have hL := hF.2.2.2.2.2.1
  have hmI := hF.2.2.2.2.2.2.2.1
  have hl9 := hF.2.2.2.2.2.2.1
  have hRo : lR s ma oa oa := Or.inr (Or.inr rfl)
  have hk9 : k ≤ 511 := by omega
  refine lv_aload_n hx hb dW_1175 rfl (lv_at hl 1 rfl) ?_
  refine lw_arg (k := 1) hC hF hW.2.2.2.2 (by omega) (lv_sub hl [0, 4] rfl) (by decide) dW_1176 dW_1177 dW_1179 dW_1180 dW_1181 ?_
  refine lv_aload_n hx hb dW_1182 rfl (lv_at hl 3 rfl) ?_
  have hrw := rw_die M (xs (4 * k + 1))
  have hLB1 : LB (cells + 1) (slots + 6) (k + 1) (dieF M (xs (4 * k + 1))) := hLB.up (mc := 1) (ms := 6) hrw.2.1 hrw.2.2 (by omega) (by omega)
  have hcs : cells + 1 ≤ 601024 ∧ slots + 6 ≤ 7293034 := (hLB.up (M' := M) (mc := 1) (ms := 6) rfl rfl (by omega) (by omega)).room hI (by omega)
  refine lw_wr hF hW (run_SH hC (lL_die l G d0 mi (lR s ma oa) ja M E oa v (xs (4 * k + 1)) k hI hCE (by omega) hRo hl9) (As := [.ref (ja 8 0), .int (xs (4 * k + 1)), .ref oa]) (rest := []) rfl rfl ml_L_165 sm_L_die ini_L cw_L_die (show nArgs yL_die 3 from ⟨by decide, by decide, by decide +kernel⟩) lJ_blind (LW.pre hF hW) hl.1 (Nat.le_of_ble_eq_true rfl) ⟨Nat.le_of_ble_eq_true rfl, Nat.le_of_ble_eq_true rfl⟩ ⟨hcs.1, hcs.2⟩ rfl dW_1183) (fun E1 ja1 v1 H locs hW hv hCE1 hI1 => ?_)
  refine lv_istore (lv' := [(5, .int (dieT M (xs (4 * k + 1)))), (0, .ref b), (1, .ref (ja 8 0)), (2, .ref (ma 0)), (3, .ref oa), (4, .int (nI (4 * k)))]) hx hb dW_1186 hl (by decide) rfl (fun ls hl => ?_)
  refine lv_aload_n hx hb dW_1188 rfl (lv_at hl 3 rfl) ?_
  refine lw_arg (k := 1) hC hF hW.2.2.2.2 (by omega) (lv_sub hl [1, 5] rfl) (by decide) dW_1189 dW_1190 dW_1192 dW_1193 dW_1194 ?_
  refine lw_ri (M' := dieF M (xs (4 * k + 1))) (Rr := dieR M (xs (4 * k + 1))) hF hW (run_V hC (c9_die l G ma M none (xs (4 * k + 1)) hmI hI.c) (As := [.int (xs (4 * k + 1))]) (rest := []) rfl rfl ml_L_167 im_X9_die se_X9_die ini_X9 cd_X9_die ⟨rfl, na_X9_die⟩ mB_blind (LW.rcv hF hW) (LW.prm hF hW) hl.1 (Nat.le_of_ble_eq_true rfl) ⟨Nat.le_of_ble_eq_true rfl, Nat.le_of_ble_eq_true rfl⟩ ⟨hcs.1, hcs.2⟩ rfl dW_1195) (fun H locs hW => ?_)
  refine lv_istore (lv' := [(6, .int (dieR M (xs (4 * k + 1)))), (5, .int (dieT M (xs (4 * k + 1)))), (0, .ref b), (1, .ref (ja 8 0)), (2, .ref (ma 0)), (3, .ref oa), (4, .int (nI (4 * k)))]) hx hb dW_1198 hl (by decide) rfl (fun ls hl => ?_)
  exact lw_tail hC hF hW hrw.1 hv hl hcs dW_1200 dW_1201 dW_1204 dW_1206 dW_1211 dW_1213 dW_1216 dW_1217 dW_1218 dW_1219 dW_1221 dW_1222 dW_1223 dW_1228 (by decide) (kk _ E1 ja1 v1 H locs _ _ ls hW hI1 hCE1 hLB1 (lv_sub hl [2, 3, 4, 5, 6] rfl))
set_option maxHeartbeats 4000000 in
set_option maxRecDepth 100000 in
theorem lc_repair (hC : CallFix p m c code 7 s #[Value.ref b] BIG RL) (hF : LF l s G d0 mi ma oa b L xs) (hi : 4 * k + 4 ≤ L) (hW : LW s G d0 ma oa x0 M M E ja v H locs) (hI : INV k M) (hCE : CE M E) (hLB : LB cells slots k M) (hl : lv_has ls 7 [(0, .ref b), (1, .ref x0), (2, .ref (ma 0)), (3, .ref oa), (4, .int (nI (4 * k)))])
    (kk : ∀ (M1 : MS) (E1 : ES) (ja1 : Nat → Nat → Nat) (v1 : Int64) (H1 : Heap) (locs1 : List Loc) (cells1 slots1 : Nat) (ls1 : Array Slot), LW s G d0 ma oa x0 M1 M1 E1 ja1 v1 H1 locs1 → INV (k + 1) M1 → CE M1 E1 → LB cells1 slots1 (k + 1) M1 → lv_has ls1 7 [(0, .ref b), (1, .ref x0), (2, .ref (ma 0)), (3, .ref oa), (4, .int (nI (4 * k)))] → W p l e room_1 s m #[Value.ref b] below meth c H1 locs1 cells1 slots1 Q (F0 m 1981 ls1 [])) : W p l e room_1 s m #[Value.ref b] below meth c H locs cells slots Q (F0 m 1231 ls []) := by
  have hx := hC.1
  have hb := hC.2.1
  have hK := hF.1.1
  obtain ⟨z0, hz0⟩ : ∃ z, z = ja 8 0 := ⟨_, rfl⟩
  have hx0 : x0 = ja 8 0 := hW.2.1.symm
  subst hx0
  have hL := hF.2.2.2.2.2.1
  have hmI := hF.2.2.2.2.2.2.2.1
  have hl9 := hF.2.2.2.2.2.2.1
  have hRo : lR s ma oa oa := Or.inr (Or.inr rfl)
  have hk9 : k ≤ 511 := by omega
  refine lv_aload_n hx hb dW_1231 rfl (lv_at hl 1 rfl) ?_
  refine lw_arg (k := 1) hC hF hW.2.2.2.2 (by omega) (lv_sub hl [0, 4] rfl) (by decide) dW_1232 dW_1233 dW_1235 dW_1236 dW_1237 ?_
  refine lv_aload_n hx hb dW_1238 rfl (lv_at hl 3 rfl) ?_
  have hrw := rw_rep M (xs (4 * k + 1))
  have hLB1 : LB (cells + 1) (slots + 6) (k + 1) (repF M (xs (4 * k + 1))) := hLB.up (mc := 1) (ms := 6) hrw.2.1 hrw.2.2 (by omega) (by omega)
  have hcs : cells + 1 ≤ 601024 ∧ slots + 6 ≤ 7293034 := (hLB.up (M' := M) (mc := 1) (ms := 6) rfl rfl (by omega) (by omega)).room hI (by omega)
  refine lw_wr hF hW (run_SH hC (lL_repair l G d0 mi (lR s ma oa) ja M E oa v (xs (4 * k + 1)) k hI hCE (by omega) hRo hl9) (As := [.ref (ja 8 0), .int (xs (4 * k + 1)), .ref oa]) (rest := []) rfl rfl ml_L_168 sm_L_repair ini_L cw_L_repair (show nArgs yL_repair 3 from ⟨by decide, by decide, by decide +kernel⟩) lJ_blind (LW.pre hF hW) hl.1 (Nat.le_of_ble_eq_true rfl) ⟨Nat.le_of_ble_eq_true rfl, Nat.le_of_ble_eq_true rfl⟩ ⟨hcs.1, hcs.2⟩ rfl dW_1239) (fun E1 ja1 v1 H locs hW hv hCE1 hI1 => ?_)
  refine lv_istore (lv' := [(5, .int (repT M (xs (4 * k + 1)))), (0, .ref b), (1, .ref (ja 8 0)), (2, .ref (ma 0)), (3, .ref oa), (4, .int (nI (4 * k)))]) hx hb dW_1242 hl (by decide) rfl (fun ls hl => ?_)
  refine lv_aload_n hx hb dW_1244 rfl (lv_at hl 3 rfl) ?_
  refine lw_arg (k := 1) hC hF hW.2.2.2.2 (by omega) (lv_sub hl [1, 5] rfl) (by decide) dW_1245 dW_1246 dW_1248 dW_1249 dW_1250 ?_
  refine lw_ri (M' := repF M (xs (4 * k + 1))) (Rr := repR M (xs (4 * k + 1))) hF hW (run_V hC (c9_repair l G ma M none (xs (4 * k + 1)) hmI hI.c) (As := [.int (xs (4 * k + 1))]) (rest := []) rfl rfl ml_L_170 im_X9_repair se_X9_repair ini_X9 cd_X9_repair ⟨rfl, na_X9_repair⟩ mB_blind (LW.rcv hF hW) (LW.prm hF hW) hl.1 (Nat.le_of_ble_eq_true rfl) ⟨Nat.le_of_ble_eq_true rfl, Nat.le_of_ble_eq_true rfl⟩ ⟨hcs.1, hcs.2⟩ rfl dW_1251) (fun H locs hW => ?_)
  refine lv_istore (lv' := [(6, .int (repR M (xs (4 * k + 1)))), (5, .int (repT M (xs (4 * k + 1)))), (0, .ref b), (1, .ref (ja 8 0)), (2, .ref (ma 0)), (3, .ref oa), (4, .int (nI (4 * k)))]) hx hb dW_1254 hl (by decide) rfl (fun ls hl => ?_)
  exact lw_tail hC hF hW hrw.1 hv hl hcs dW_1256 dW_1257 dW_1260 dW_1262 dW_1267 dW_1269 dW_1272 dW_1273 dW_1274 dW_1275 dW_1277 dW_1278 dW_1279 dW_1284 (by decide) (kk _ E1 ja1 v1 H locs _ _ ls hW hI1 hCE1 hLB1 (lv_sub hl [2, 3, 4, 5, 6] rfl))
end LWC
