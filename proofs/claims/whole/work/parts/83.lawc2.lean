/-! CASES OF THE LAW -/
section LWC
variable {p : Program} {l : Launch} {e : Env} {s : State} {m : MethodId} {below : List Frame} {meth : Method} {c : Code} {H : Heap} {locs : List Loc} {cells slots : Nat} {Q : State → Prop}
variable {ls : Array Slot} {G : gG} {d0 mi : Nat} {ma : Nat → Nat} {oa x0 b L k : Nat} {xs : Nat → Int32} {M : MS} {E : ES} {ja : Nat → Nat → Nat} {v : Int64}
set_option maxHeartbeats 4000000 in
set_option maxRecDepth 100000 in
theorem lc_distance (hC : CallFix p m c code 7 s #[Value.ref b] BIG RL) (hF : LF l s G d0 mi ma oa b L xs) (hi : 4 * k + 4 ≤ L) (hW : LW s G d0 ma oa x0 M M E ja v H locs) (hI : INV k M) (hCE : CE M E) (hLB : LB cells slots k M) (hl : lv_has ls 7 [(0, .ref b), (1, .ref x0), (2, .ref (ma 0)), (3, .ref oa), (4, .int (nI (4 * k)))])
    (kk : ∀ (M1 : MS) (E1 : ES) (ja1 : Nat → Nat → Nat) (v1 : Int64) (H1 : Heap) (locs1 : List Loc) (cells1 slots1 : Nat) (ls1 : Array Slot), LW s G d0 ma oa x0 M1 M1 E1 ja1 v1 H1 locs1 → INV (k + 1) M1 → CE M1 E1 → LB cells1 slots1 (k + 1) M1 → lv_has ls1 7 [(0, .ref b), (1, .ref x0), (2, .ref (ma 0)), (3, .ref oa), (4, .int (nI (4 * k)))] → W p l e room_1 s m #[Value.ref b] below meth c H1 locs1 cells1 slots1 Q (F0 m 1981 ls1 [])) : W p l e room_1 s m #[Value.ref b] below meth c H locs cells slots Q (F0 m 315 ls []) := by
  have hx := hC.1
  have hb := hC.2.1
  have hK := hF.1.1
  obtain ⟨z0, hz0⟩ : ∃ z, z = ja 8 0 := ⟨_, rfl⟩
  have hx0 : x0 = ja 8 0 := hW.2.1.symm
  subst hx0
  have hL := hF.2.2.2.2.2.1
  have hmI := hF.2.2.2.2.2.2.2.1
  have hl9 := hF.2.2.2.2.2.2.1
  have hRo : lR s ma oa oa := Or.inr (Or.inr rfl)
  have hk9 : k ≤ 511 := by omega
  refine lv_aload_n hx hb dW_315 rfl (lv_at hl 1 rfl) ?_
  refine lw_arg (k := 1) hC hF hW.2.2.2.2 (by omega) (lv_sub hl [0, 4] rfl) (by decide) dW_316 dW_317 dW_319 dW_320 dW_321 ?_
  refine lw_arg (k := 2) hC hF hW.2.2.2.2 (by omega) (lv_sub hl [0, 4] rfl) (by decide) dW_322 dW_323 dW_325 dW_326 dW_327 ?_
  refine lv_aload_n hx hb dW_328 rfl (lv_at hl 3 rfl) ?_
  have hLB1 : LB (cells + 1) (slots + 6) (k + 1) (thr M (distT (xs (4 * k + 1)) (xs (4 * k + 2)))) := hLB.up (mc := 1) (ms := 6) rfl rfl (by omega) (by omega)
  have hcs := hLB1.room (INV_thr hI) (by omega)
  refine lw_wa (Rr := distR M (xs (4 * k + 1)) (xs (4 * k + 2))) hF hW hCE hI (run_SH hC (lL_distance l G d0 mi (lR s ma oa) ja M E oa v (xs (4 * k + 1)) (xs (4 * k + 2)) k hI hCE hRo hl9) (As := [.ref (ja 8 0), .int (xs (4 * k + 1)), .int (xs (4 * k + 2)), .ref oa]) (rest := []) rfl rfl ml_L_122 sm_L_distance ini_L cw_L_distance (show nArgs yL_distance 4 from ⟨by decide, by decide, by decide +kernel⟩) lJ_blind (LW.pre hF hW) hl.1 (Nat.le_of_ble_eq_true rfl) ⟨Nat.le_of_ble_eq_true rfl, Nat.le_of_ble_eq_true rfl⟩ ⟨hcs.1, hcs.2⟩ rfl dW_329) (fun E1 ja1 v1 H locs hW hv hCE1 hI1 => ?_)
  refine lv_istore (lv' := [(5, .int (distT (xs (4 * k + 1)) (xs (4 * k + 2)))), (0, .ref b), (1, .ref (ja 8 0)), (2, .ref (ma 0)), (3, .ref oa), (4, .int (nI (4 * k)))]) hx hb dW_332 hl (by decide) rfl (fun ls hl => ?_)
  refine lv_aload_n hx hb dW_334 rfl (lv_at hl 3 rfl) ?_
  refine lw_arg (k := 1) hC hF hW.2.2.2.2 (by omega) (lv_sub hl [1, 5] rfl) (by decide) dW_335 dW_336 dW_338 dW_339 dW_340 ?_
  refine lw_arg (k := 2) hC hF hW.2.2.2.2 (by omega) (lv_sub hl [1, 5] rfl) (by decide) dW_341 dW_342 dW_344 dW_345 dW_346 ?_
  refine lw_ri (M' := thr M (distT (xs (4 * k + 1)) (xs (4 * k + 2)))) (Rr := distR M (xs (4 * k + 1)) (xs (4 * k + 2))) hF hW (run_V hC (c9_distance l G ma M none (xs (4 * k + 1)) (xs (4 * k + 2)) hmI hI.c) (As := [.int (xs (4 * k + 1)), .int (xs (4 * k + 2))]) (rest := []) rfl rfl ml_L_125 im_X9_distance se_X9_distance ini_X9 cd_X9_distance ⟨rfl, na_X9_distance⟩ mB_blind (LW.rcv hF hW) (LW.prm hF hW) hl.1 (Nat.le_of_ble_eq_true rfl) ⟨Nat.le_of_ble_eq_true rfl, Nat.le_of_ble_eq_true rfl⟩ ⟨hcs.1, hcs.2⟩ rfl dW_347) (fun H locs hW => ?_)
  refine lv_istore (lv' := [(6, .int (distR M (xs (4 * k + 1)) (xs (4 * k + 2)))), (5, .int (distT (xs (4 * k + 1)) (xs (4 * k + 2)))), (0, .ref b), (1, .ref (ja 8 0)), (2, .ref (ma 0)), (3, .ref oa), (4, .int (nI (4 * k)))]) hx hb dW_350 hl (by decide) rfl (fun ls hl => ?_)
  exact lw_tail hC hF hW rfl hv hl hcs dW_352 dW_353 dW_356 dW_358 dW_363 dW_365 dW_368 dW_369 dW_370 dW_371 dW_373 dW_374 dW_375 dW_380 (by decide) (kk _ E1 ja1 v1 H locs _ _ ls hW hI1 hCE1 hLB1 (lv_sub hl [2, 3, 4, 5, 6] rfl))
set_option maxHeartbeats 4000000 in
set_option maxRecDepth 100000 in
theorem lc_left (hC : CallFix p m c code 7 s #[Value.ref b] BIG RL) (hF : LF l s G d0 mi ma oa b L xs) (hi : 4 * k + 4 ≤ L) (hW : LW s G d0 ma oa x0 M M E ja v H locs) (hI : INV k M) (hCE : CE M E) (hLB : LB cells slots k M) (hl : lv_has ls 7 [(0, .ref b), (1, .ref x0), (2, .ref (ma 0)), (3, .ref oa), (4, .int (nI (4 * k)))])
    (kk : ∀ (M1 : MS) (E1 : ES) (ja1 : Nat → Nat → Nat) (v1 : Int64) (H1 : Heap) (locs1 : List Loc) (cells1 slots1 : Nat) (ls1 : Array Slot), LW s G d0 ma oa x0 M1 M1 E1 ja1 v1 H1 locs1 → INV (k + 1) M1 → CE M1 E1 → LB cells1 slots1 (k + 1) M1 → lv_has ls1 7 [(0, .ref b), (1, .ref x0), (2, .ref (ma 0)), (3, .ref oa), (4, .int (nI (4 * k)))] → W p l e room_1 s m #[Value.ref b] below meth c H1 locs1 cells1 slots1 Q (F0 m 1981 ls1 [])) : W p l e room_1 s m #[Value.ref b] below meth c H locs cells slots Q (F0 m 859 ls []) := by
  have hx := hC.1
  have hb := hC.2.1
  have hK := hF.1.1
  obtain ⟨z0, hz0⟩ : ∃ z, z = ja 8 0 := ⟨_, rfl⟩
  have hx0 : x0 = ja 8 0 := hW.2.1.symm
  subst hx0
  have hL := hF.2.2.2.2.2.1
  have hmI := hF.2.2.2.2.2.2.2.1
  have hl9 := hF.2.2.2.2.2.2.1
  have hRo : lR s ma oa oa := Or.inr (Or.inr rfl)
  have hk9 : k ≤ 511 := by omega
  refine lv_aload_n hx hb dW_859 rfl (lv_at hl 1 rfl) ?_
  refine lw_arg (k := 1) hC hF hW.2.2.2.2 (by omega) (lv_sub hl [0, 4] rfl) (by decide) dW_860 dW_861 dW_863 dW_864 dW_865 ?_
  refine lw_arg (k := 2) hC hF hW.2.2.2.2 (by omega) (lv_sub hl [0, 4] rfl) (by decide) dW_866 dW_867 dW_869 dW_870 dW_871 ?_
  refine lv_aload_n hx hb dW_872 rfl (lv_at hl 3 rfl) ?_
  have hLB1 : LB (cells + 1) (slots + 6) (k + 1) (thr M (lnT M (xs (4 * k + 1)) (xs (4 * k + 2)))) := hLB.up (mc := 1) (ms := 6) rfl rfl (by omega) (by omega)
  have hcs := hLB1.room (INV_thr hI) (by omega)
  refine lw_wa (Rr := leftR M (xs (4 * k + 1)) (xs (4 * k + 2))) hF hW hCE hI (run_SH hC (lL_left l G d0 mi (lR s ma oa) ja M E oa v (xs (4 * k + 1)) (xs (4 * k + 2)) k hI hCE hRo hl9) (As := [.ref (ja 8 0), .int (xs (4 * k + 1)), .int (xs (4 * k + 2)), .ref oa]) (rest := []) rfl rfl ml_L_150 sm_L_left ini_L cw_L_left (show nArgs yL_left 4 from ⟨by decide, by decide, by decide +kernel⟩) lJ_blind (LW.pre hF hW) hl.1 (Nat.le_of_ble_eq_true rfl) ⟨Nat.le_of_ble_eq_true rfl, Nat.le_of_ble_eq_true rfl⟩ ⟨hcs.1, hcs.2⟩ rfl dW_873) (fun E1 ja1 v1 H locs hW hv hCE1 hI1 => ?_)
  refine lv_istore (lv' := [(5, .int (lnT M (xs (4 * k + 1)) (xs (4 * k + 2)))), (0, .ref b), (1, .ref (ja 8 0)), (2, .ref (ma 0)), (3, .ref oa), (4, .int (nI (4 * k)))]) hx hb dW_876 hl (by decide) rfl (fun ls hl => ?_)
  refine lv_aload_n hx hb dW_878 rfl (lv_at hl 3 rfl) ?_
  refine lw_arg (k := 1) hC hF hW.2.2.2.2 (by omega) (lv_sub hl [1, 5] rfl) (by decide) dW_879 dW_880 dW_882 dW_883 dW_884 ?_
  refine lw_arg (k := 2) hC hF hW.2.2.2.2 (by omega) (lv_sub hl [1, 5] rfl) (by decide) dW_885 dW_886 dW_888 dW_889 dW_890 ?_
  refine lw_ri (M' := thr M (lnT M (xs (4 * k + 1)) (xs (4 * k + 2)))) (Rr := leftR M (xs (4 * k + 1)) (xs (4 * k + 2))) hF hW (run_V hC (c9_left l G ma M none (xs (4 * k + 1)) (xs (4 * k + 2)) hmI hI.c) (As := [.int (xs (4 * k + 1)), .int (xs (4 * k + 2))]) (rest := []) rfl rfl ml_L_152 im_X9_left se_X9_left ini_X9 cd_X9_left ⟨rfl, na_X9_left⟩ mB_blind (LW.rcv hF hW) (LW.prm hF hW) hl.1 (Nat.le_of_ble_eq_true rfl) ⟨Nat.le_of_ble_eq_true rfl, Nat.le_of_ble_eq_true rfl⟩ ⟨hcs.1, hcs.2⟩ rfl dW_891) (fun H locs hW => ?_)
  refine lv_istore (lv' := [(6, .int (leftR M (xs (4 * k + 1)) (xs (4 * k + 2)))), (5, .int (lnT M (xs (4 * k + 1)) (xs (4 * k + 2)))), (0, .ref b), (1, .ref (ja 8 0)), (2, .ref (ma 0)), (3, .ref oa), (4, .int (nI (4 * k)))]) hx hb dW_894 hl (by decide) rfl (fun ls hl => ?_)
  exact lw_tail hC hF hW rfl hv hl hcs dW_896 dW_897 dW_900 dW_902 dW_907 dW_909 dW_912 dW_913 dW_914 dW_915 dW_917 dW_918 dW_919 dW_924 (by decide) (kk _ E1 ja1 v1 H locs _ _ ls hW hI1 hCE1 hLB1 (lv_sub hl [2, 3, 4, 5, 6] rfl))
set_option maxHeartbeats 4000000 in
set_option maxRecDepth 100000 in
theorem lc_claimant (hC : CallFix p m c code 7 s #[Value.ref b] BIG RL) (hF : LF l s G d0 mi ma oa b L xs) (hi : 4 * k + 4 ≤ L) (hW : LW s G d0 ma oa x0 M M E ja v H locs) (hI : INV k M) (hCE : CE M E) (hLB : LB cells slots k M) (hl : lv_has ls 7 [(0, .ref b), (1, .ref x0), (2, .ref (ma 0)), (3, .ref oa), (4, .int (nI (4 * k)))])
    (kk : ∀ (M1 : MS) (E1 : ES) (ja1 : Nat → Nat → Nat) (v1 : Int64) (H1 : Heap) (locs1 : List Loc) (cells1 slots1 : Nat) (ls1 : Array Slot), LW s G d0 ma oa x0 M1 M1 E1 ja1 v1 H1 locs1 → INV (k + 1) M1 → CE M1 E1 → LB cells1 slots1 (k + 1) M1 → lv_has ls1 7 [(0, .ref b), (1, .ref x0), (2, .ref (ma 0)), (3, .ref oa), (4, .int (nI (4 * k)))] → W p l e room_1 s m #[Value.ref b] below meth c H1 locs1 cells1 slots1 Q (F0 m 1981 ls1 [])) : W p l e room_1 s m #[Value.ref b] below meth c H locs cells slots Q (F0 m 927 ls []) := by
  have hx := hC.1
  have hb := hC.2.1
  have hK := hF.1.1
  obtain ⟨z0, hz0⟩ : ∃ z, z = ja 8 0 := ⟨_, rfl⟩
  have hx0 : x0 = ja 8 0 := hW.2.1.symm
  subst hx0
  have hL := hF.2.2.2.2.2.1
  have hmI := hF.2.2.2.2.2.2.2.1
  have hl9 := hF.2.2.2.2.2.2.1
  have hRo : lR s ma oa oa := Or.inr (Or.inr rfl)
  have hk9 : k ≤ 511 := by omega
  refine lv_aload_n hx hb dW_927 rfl (lv_at hl 1 rfl) ?_
  refine lw_arg (k := 1) hC hF hW.2.2.2.2 (by omega) (lv_sub hl [0, 4] rfl) (by decide) dW_928 dW_929 dW_931 dW_932 dW_933 ?_
  refine lw_arg (k := 2) hC hF hW.2.2.2.2 (by omega) (lv_sub hl [0, 4] rfl) (by decide) dW_934 dW_935 dW_937 dW_938 dW_939 ?_
  refine lv_aload_n hx hb dW_940 rfl (lv_at hl 3 rfl) ?_
  have hLB1 : LB (cells + 1) (slots + 6) (k + 1) (thr M (lnT M (xs (4 * k + 1)) (xs (4 * k + 2)))) := hLB.up (mc := 1) (ms := 6) rfl rfl (by omega) (by omega)
  have hcs := hLB1.room (INV_thr hI) (by omega)
  refine lw_wa (Rr := clnR M (xs (4 * k + 1)) (xs (4 * k + 2))) hF hW hCE hI (run_SH hC (lL_claimant l G d0 mi (lR s ma oa) ja M E oa v (xs (4 * k + 1)) (xs (4 * k + 2)) k hI hCE hRo hl9) (As := [.ref (ja 8 0), .int (xs (4 * k + 1)), .int (xs (4 * k + 2)), .ref oa]) (rest := []) rfl rfl ml_L_153 sm_L_claimant ini_L cw_L_claimant (show nArgs yL_claimant 4 from ⟨by decide, by decide, by decide +kernel⟩) lJ_blind (LW.pre hF hW) hl.1 (Nat.le_of_ble_eq_true rfl) ⟨Nat.le_of_ble_eq_true rfl, Nat.le_of_ble_eq_true rfl⟩ ⟨hcs.1, hcs.2⟩ rfl dW_941) (fun E1 ja1 v1 H locs hW hv hCE1 hI1 => ?_)
  refine lv_istore (lv' := [(5, .int (lnT M (xs (4 * k + 1)) (xs (4 * k + 2)))), (0, .ref b), (1, .ref (ja 8 0)), (2, .ref (ma 0)), (3, .ref oa), (4, .int (nI (4 * k)))]) hx hb dW_944 hl (by decide) rfl (fun ls hl => ?_)
  refine lv_aload_n hx hb dW_946 rfl (lv_at hl 3 rfl) ?_
  refine lw_arg (k := 1) hC hF hW.2.2.2.2 (by omega) (lv_sub hl [1, 5] rfl) (by decide) dW_947 dW_948 dW_950 dW_951 dW_952 ?_
  refine lw_arg (k := 2) hC hF hW.2.2.2.2 (by omega) (lv_sub hl [1, 5] rfl) (by decide) dW_953 dW_954 dW_956 dW_957 dW_958 ?_
  refine lw_ri (M' := thr M (lnT M (xs (4 * k + 1)) (xs (4 * k + 2)))) (Rr := clnR M (xs (4 * k + 1)) (xs (4 * k + 2))) hF hW (run_V hC (c9_claimant l G ma M none (xs (4 * k + 1)) (xs (4 * k + 2)) hmI hI.c) (As := [.int (xs (4 * k + 1)), .int (xs (4 * k + 2))]) (rest := []) rfl rfl ml_L_155 im_X9_claimant se_X9_claimant ini_X9 cd_X9_claimant ⟨rfl, na_X9_claimant⟩ mB_blind (LW.rcv hF hW) (LW.prm hF hW) hl.1 (Nat.le_of_ble_eq_true rfl) ⟨Nat.le_of_ble_eq_true rfl, Nat.le_of_ble_eq_true rfl⟩ ⟨hcs.1, hcs.2⟩ rfl dW_959) (fun H locs hW => ?_)
  refine lv_istore (lv' := [(6, .int (clnR M (xs (4 * k + 1)) (xs (4 * k + 2)))), (5, .int (lnT M (xs (4 * k + 1)) (xs (4 * k + 2)))), (0, .ref b), (1, .ref (ja 8 0)), (2, .ref (ma 0)), (3, .ref oa), (4, .int (nI (4 * k)))]) hx hb dW_962 hl (by decide) rfl (fun ls hl => ?_)
  exact lw_tail hC hF hW rfl hv hl hcs dW_964 dW_965 dW_968 dW_970 dW_975 dW_977 dW_980 dW_981 dW_982 dW_983 dW_985 dW_986 dW_987 dW_992 (by decide) (kk _ E1 ja1 v1 H locs _ _ ls hW hI1 hCE1 hLB1 (lv_sub hl [2, 3, 4, 5, 6] rfl))
set_option maxHeartbeats 4000000 in
set_option maxRecDepth 100000 in
theorem lc_amount (hC : CallFix p m c code 7 s #[Value.ref b] BIG RL) (hF : LF l s G d0 mi ma oa b L xs) (hi : 4 * k + 4 ≤ L) (hW : LW s G d0 ma oa x0 M M E ja v H locs) (hI : INV k M) (hCE : CE M E) (hLB : LB cells slots k M) (hl : lv_has ls 7 [(0, .ref b), (1, .ref x0), (2, .ref (ma 0)), (3, .ref oa), (4, .int (nI (4 * k)))])
    (kk : ∀ (M1 : MS) (E1 : ES) (ja1 : Nat → Nat → Nat) (v1 : Int64) (H1 : Heap) (locs1 : List Loc) (cells1 slots1 : Nat) (ls1 : Array Slot), LW s G d0 ma oa x0 M1 M1 E1 ja1 v1 H1 locs1 → INV (k + 1) M1 → CE M1 E1 → LB cells1 slots1 (k + 1) M1 → lv_has ls1 7 [(0, .ref b), (1, .ref x0), (2, .ref (ma 0)), (3, .ref oa), (4, .int (nI (4 * k)))] → W p l e room_1 s m #[Value.ref b] below meth c H1 locs1 cells1 slots1 Q (F0 m 1981 ls1 [])) : W p l e room_1 s m #[Value.ref b] below meth c H locs cells slots Q (F0 m 995 ls []) := by
  have hx := hC.1
  have hb := hC.2.1
  have hK := hF.1.1
  obtain ⟨z0, hz0⟩ : ∃ z, z = ja 8 0 := ⟨_, rfl⟩
  have hx0 : x0 = ja 8 0 := hW.2.1.symm
  subst hx0
  have hL := hF.2.2.2.2.2.1
  have hmI := hF.2.2.2.2.2.2.2.1
  have hl9 := hF.2.2.2.2.2.2.1
  have hRo : lR s ma oa oa := Or.inr (Or.inr rfl)
  have hk9 : k ≤ 511 := by omega
  refine lv_aload_n hx hb dW_995 rfl (lv_at hl 1 rfl) ?_
  refine lw_arg (k := 1) hC hF hW.2.2.2.2 (by omega) (lv_sub hl [0, 4] rfl) (by decide) dW_996 dW_997 dW_999 dW_1000 dW_1001 ?_
  refine lv_aload_n hx hb dW_1002 rfl (lv_at hl 3 rfl) ?_
  have hLB1 : LB (cells + 1) (slots + 6) (k + 1) (thr M (tT M (xs (4 * k + 1)))) := hLB.up (mc := 1) (ms := 6) rfl rfl (by omega) (by omega)
  have hcs := hLB1.room (INV_thr hI) (by omega)
  refine lw_wa (Rr := amtR M (xs (4 * k + 1))) hF hW hCE hI (run_SH hC (lL_amount l G d0 mi (lR s ma oa) ja M E oa v (xs (4 * k + 1)) k hI hCE hRo hl9) (As := [.ref (ja 8 0), .int (xs (4 * k + 1)), .ref oa]) (rest := []) rfl rfl ml_L_156 sm_L_amount ini_L cw_L_amount (show nArgs yL_amount 3 from ⟨by decide, by decide, by decide +kernel⟩) lJ_blind (LW.pre hF hW) hl.1 (Nat.le_of_ble_eq_true rfl) ⟨Nat.le_of_ble_eq_true rfl, Nat.le_of_ble_eq_true rfl⟩ ⟨hcs.1, hcs.2⟩ rfl dW_1003) (fun E1 ja1 v1 H locs hW hv hCE1 hI1 => ?_)
  refine lv_istore (lv' := [(5, .int (tT M (xs (4 * k + 1)))), (0, .ref b), (1, .ref (ja 8 0)), (2, .ref (ma 0)), (3, .ref oa), (4, .int (nI (4 * k)))]) hx hb dW_1006 hl (by decide) rfl (fun ls hl => ?_)
  refine lv_aload_n hx hb dW_1008 rfl (lv_at hl 3 rfl) ?_
  refine lw_arg (k := 1) hC hF hW.2.2.2.2 (by omega) (lv_sub hl [1, 5] rfl) (by decide) dW_1009 dW_1010 dW_1012 dW_1013 dW_1014 ?_
  refine lw_ri (M' := thr M (tT M (xs (4 * k + 1)))) (Rr := amtR M (xs (4 * k + 1))) hF hW (run_V hC (c9_amount l G ma M none (xs (4 * k + 1)) hmI hI.c) (As := [.int (xs (4 * k + 1))]) (rest := []) rfl rfl ml_L_158 im_X9_amount se_X9_amount ini_X9 cd_X9_amount ⟨rfl, na_X9_amount⟩ mB_blind (LW.rcv hF hW) (LW.prm hF hW) hl.1 (Nat.le_of_ble_eq_true rfl) ⟨Nat.le_of_ble_eq_true rfl, Nat.le_of_ble_eq_true rfl⟩ ⟨hcs.1, hcs.2⟩ rfl dW_1015) (fun H locs hW => ?_)
  refine lv_istore (lv' := [(6, .int (amtR M (xs (4 * k + 1)))), (5, .int (tT M (xs (4 * k + 1)))), (0, .ref b), (1, .ref (ja 8 0)), (2, .ref (ma 0)), (3, .ref oa), (4, .int (nI (4 * k)))]) hx hb dW_1018 hl (by decide) rfl (fun ls hl => ?_)
  exact lw_tail hC hF hW rfl hv hl hcs dW_1020 dW_1021 dW_1024 dW_1026 dW_1031 dW_1033 dW_1036 dW_1037 dW_1038 dW_1039 dW_1041 dW_1042 dW_1043 dW_1048 (by decide) (kk _ E1 ja1 v1 H locs _ _ ls hW hI1 hCE1 hLB1 (lv_sub hl [2, 3, 4, 5, 6] rfl))
set_option maxHeartbeats 4000000 in
set_option maxRecDepth 100000 in
theorem lc_trayCell (hC : CallFix p m c code 7 s #[Value.ref b] BIG RL) (hF : LF l s G d0 mi ma oa b L xs) (hi : 4 * k + 4 ≤ L) (hW : LW s G d0 ma oa x0 M M E ja v H locs) (hI : INV k M) (hCE : CE M E) (hLB : LB cells slots k M) (hl : lv_has ls 7 [(0, .ref b), (1, .ref x0), (2, .ref (ma 0)), (3, .ref oa), (4, .int (nI (4 * k)))])
    (kk : ∀ (M1 : MS) (E1 : ES) (ja1 : Nat → Nat → Nat) (v1 : Int64) (H1 : Heap) (locs1 : List Loc) (cells1 slots1 : Nat) (ls1 : Array Slot), LW s G d0 ma oa x0 M1 M1 E1 ja1 v1 H1 locs1 → INV (k + 1) M1 → CE M1 E1 → LB cells1 slots1 (k + 1) M1 → lv_has ls1 7 [(0, .ref b), (1, .ref x0), (2, .ref (ma 0)), (3, .ref oa), (4, .int (nI (4 * k)))] → W p l e room_1 s m #[Value.ref b] below meth c H1 locs1 cells1 slots1 Q (F0 m 1981 ls1 [])) : W p l e room_1 s m #[Value.ref b] below meth c H locs cells slots Q (F0 m 1051 ls []) := by
  have hx := hC.1
  have hb := hC.2.1
  have hK := hF.1.1
  obtain ⟨z0, hz0⟩ : ∃ z, z = ja 8 0 := ⟨_, rfl⟩
  have hx0 : x0 = ja 8 0 := hW.2.1.symm
  subst hx0
  have hL := hF.2.2.2.2.2.1
  have hmI := hF.2.2.2.2.2.2.2.1
  have hl9 := hF.2.2.2.2.2.2.1
  have hRo : lR s ma oa oa := Or.inr (Or.inr rfl)
  have hk9 : k ≤ 511 := by omega
  refine lv_aload_n hx hb dW_1051 rfl (lv_at hl 1 rfl) ?_
  refine lw_arg (k := 1) hC hF hW.2.2.2.2 (by omega) (lv_sub hl [0, 4] rfl) (by decide) dW_1052 dW_1053 dW_1055 dW_1056 dW_1057 ?_
  refine lv_aload_n hx hb dW_1058 rfl (lv_at hl 3 rfl) ?_
  have hLB1 : LB (cells + 1) (slots + 6) (k + 1) (thr M (tT M (xs (4 * k + 1)))) := hLB.up (mc := 1) (ms := 6) rfl rfl (by omega) (by omega)
  have hcs := hLB1.room (INV_thr hI) (by omega)
  refine lw_wa (Rr := tcR M (xs (4 * k + 1))) hF hW hCE hI (run_SH hC (lL_trayCell l G d0 mi (lR s ma oa) ja M E oa v (xs (4 * k + 1)) k hI hCE hRo hl9) (As := [.ref (ja 8 0), .int (xs (4 * k + 1)), .ref oa]) (rest := []) rfl rfl ml_L_159 sm_L_trayCell ini_L cw_L_trayCell (show nArgs yL_trayCell 3 from ⟨by decide, by decide, by decide +kernel⟩) lJ_blind (LW.pre hF hW) hl.1 (Nat.le_of_ble_eq_true rfl) ⟨Nat.le_of_ble_eq_true rfl, Nat.le_of_ble_eq_true rfl⟩ ⟨hcs.1, hcs.2⟩ rfl dW_1059) (fun E1 ja1 v1 H locs hW hv hCE1 hI1 => ?_)
  refine lv_istore (lv' := [(5, .int (tT M (xs (4 * k + 1)))), (0, .ref b), (1, .ref (ja 8 0)), (2, .ref (ma 0)), (3, .ref oa), (4, .int (nI (4 * k)))]) hx hb dW_1062 hl (by decide) rfl (fun ls hl => ?_)
  refine lv_aload_n hx hb dW_1064 rfl (lv_at hl 3 rfl) ?_
  refine lw_arg (k := 1) hC hF hW.2.2.2.2 (by omega) (lv_sub hl [1, 5] rfl) (by decide) dW_1065 dW_1066 dW_1068 dW_1069 dW_1070 ?_
  refine lw_ri (M' := thr M (tT M (xs (4 * k + 1)))) (Rr := tcR M (xs (4 * k + 1))) hF hW (run_V hC (c9_trayCell l G ma M none (xs (4 * k + 1)) hmI hI.c) (As := [.int (xs (4 * k + 1))]) (rest := []) rfl rfl ml_L_161 im_X9_trayCell se_X9_trayCell ini_X9 cd_X9_trayCell ⟨rfl, na_X9_trayCell⟩ mB_blind (LW.rcv hF hW) (LW.prm hF hW) hl.1 (Nat.le_of_ble_eq_true rfl) ⟨Nat.le_of_ble_eq_true rfl, Nat.le_of_ble_eq_true rfl⟩ ⟨hcs.1, hcs.2⟩ rfl dW_1071) (fun H locs hW => ?_)
  refine lv_istore (lv' := [(6, .int (tcR M (xs (4 * k + 1)))), (5, .int (tT M (xs (4 * k + 1)))), (0, .ref b), (1, .ref (ja 8 0)), (2, .ref (ma 0)), (3, .ref oa), (4, .int (nI (4 * k)))]) hx hb dW_1074 hl (by decide) rfl (fun ls hl => ?_)
  exact lw_tail hC hF hW rfl hv hl hcs dW_1076 dW_1077 dW_1080 dW_1082 dW_1087 dW_1089 dW_1092 dW_1093 dW_1094 dW_1095 dW_1097 dW_1098 dW_1099 dW_1104 (by decide) (kk _ E1 ja1 v1 H locs _ _ ls hW hI1 hCE1 hLB1 (lv_sub hl [2, 3, 4, 5, 6] rfl))
set_option maxHeartbeats 4000000 in
set_option maxRecDepth 100000 in
theorem lc_robotIn (hC : CallFix p m c code 7 s #[Value.ref b] BIG RL) (hF : LF l s G d0 mi ma oa b L xs) (hi : 4 * k + 4 ≤ L) (hW : LW s G d0 ma oa x0 M M E ja v H locs) (hI : INV k M) (hCE : CE M E) (hLB : LB cells slots k M) (hl : lv_has ls 7 [(0, .ref b), (1, .ref x0), (2, .ref (ma 0)), (3, .ref oa), (4, .int (nI (4 * k)))])
    (kk : ∀ (M1 : MS) (E1 : ES) (ja1 : Nat → Nat → Nat) (v1 : Int64) (H1 : Heap) (locs1 : List Loc) (cells1 slots1 : Nat) (ls1 : Array Slot), LW s G d0 ma oa x0 M1 M1 E1 ja1 v1 H1 locs1 → INV (k + 1) M1 → CE M1 E1 → LB cells1 slots1 (k + 1) M1 → lv_has ls1 7 [(0, .ref b), (1, .ref x0), (2, .ref (ma 0)), (3, .ref oa), (4, .int (nI (4 * k)))] → W p l e room_1 s m #[Value.ref b] below meth c H1 locs1 cells1 slots1 Q (F0 m 1981 ls1 [])) : W p l e room_1 s m #[Value.ref b] below meth c H locs cells slots Q (F0 m 1287 ls []) := by
  have hx := hC.1
  have hb := hC.2.1
  have hK := hF.1.1
  obtain ⟨z0, hz0⟩ : ∃ z, z = ja 8 0 := ⟨_, rfl⟩
  have hx0 : x0 = ja 8 0 := hW.2.1.symm
  subst hx0
  have hL := hF.2.2.2.2.2.1
  have hmI := hF.2.2.2.2.2.2.2.1
  have hl9 := hF.2.2.2.2.2.2.1
  have hRo : lR s ma oa oa := Or.inr (Or.inr rfl)
  have hk9 : k ≤ 511 := by omega
  refine lv_aload_n hx hb dW_1287 rfl (lv_at hl 1 rfl) ?_
  refine lw_arg (k := 1) hC hF hW.2.2.2.2 (by omega) (lv_sub hl [0, 4] rfl) (by decide) dW_1288 dW_1289 dW_1291 dW_1292 dW_1293 ?_
  refine lv_aload_n hx hb dW_1294 rfl (lv_at hl 3 rfl) ?_
  have hLB1 : LB (cells + 1) (slots + 6) (k + 1) (thr M (cellT (xs (4 * k + 1)))) := hLB.up (mc := 1) (ms := 6) rfl rfl (by omega) (by omega)
  have hcs := hLB1.room (INV_thr hI) (by omega)
  refine lw_wa (Rr := rinR M (xs (4 * k + 1))) hF hW hCE hI (run_SH hC (lL_robotIn l G d0 mi (lR s ma oa) ja M E oa v (xs (4 * k + 1)) k hI hCE hRo hl9) (As := [.ref (ja 8 0), .int (xs (4 * k + 1)), .ref oa]) (rest := []) rfl rfl ml_L_171 sm_L_robotIn ini_L cw_L_robotIn (show nArgs yL_robotIn 3 from ⟨by decide, by decide, by decide +kernel⟩) lJ_blind (LW.pre hF hW) hl.1 (Nat.le_of_ble_eq_true rfl) ⟨Nat.le_of_ble_eq_true rfl, Nat.le_of_ble_eq_true rfl⟩ ⟨hcs.1, hcs.2⟩ rfl dW_1295) (fun E1 ja1 v1 H locs hW hv hCE1 hI1 => ?_)
  refine lv_istore (lv' := [(5, .int (cellT (xs (4 * k + 1)))), (0, .ref b), (1, .ref (ja 8 0)), (2, .ref (ma 0)), (3, .ref oa), (4, .int (nI (4 * k)))]) hx hb dW_1298 hl (by decide) rfl (fun ls hl => ?_)
  refine lv_aload_n hx hb dW_1300 rfl (lv_at hl 3 rfl) ?_
  refine lw_arg (k := 1) hC hF hW.2.2.2.2 (by omega) (lv_sub hl [1, 5] rfl) (by decide) dW_1301 dW_1302 dW_1304 dW_1305 dW_1306 ?_
  refine lw_ri (M' := thr M (cellT (xs (4 * k + 1)))) (Rr := rinR M (xs (4 * k + 1))) hF hW (run_V hC (c9_robotIn l G ma M none (xs (4 * k + 1)) hmI hI.c) (As := [.int (xs (4 * k + 1))]) (rest := []) rfl rfl ml_L_173 im_X9_robotIn se_X9_robotIn ini_X9 cd_X9_robotIn ⟨rfl, na_X9_robotIn⟩ mB_blind (LW.rcv hF hW) (LW.prm hF hW) hl.1 (Nat.le_of_ble_eq_true rfl) ⟨Nat.le_of_ble_eq_true rfl, Nat.le_of_ble_eq_true rfl⟩ ⟨hcs.1, hcs.2⟩ rfl dW_1307) (fun H locs hW => ?_)
  refine lv_istore (lv' := [(6, .int (rinR M (xs (4 * k + 1)))), (5, .int (cellT (xs (4 * k + 1)))), (0, .ref b), (1, .ref (ja 8 0)), (2, .ref (ma 0)), (3, .ref oa), (4, .int (nI (4 * k)))]) hx hb dW_1310 hl (by decide) rfl (fun ls hl => ?_)
  exact lw_tail hC hF hW rfl hv hl hcs dW_1312 dW_1313 dW_1316 dW_1318 dW_1323 dW_1325 dW_1328 dW_1329 dW_1330 dW_1331 dW_1333 dW_1334 dW_1335 dW_1340 (by decide) (kk _ E1 ja1 v1 H locs _ _ ls hW hI1 hCE1 hLB1 (lv_sub hl [2, 3, 4, 5, 6] rfl))
set_option maxHeartbeats 4000000 in
set_option maxRecDepth 100000 in
theorem lc_cellOf (hC : CallFix p m c code 7 s #[Value.ref b] BIG RL) (hF : LF l s G d0 mi ma oa b L xs) (hi : 4 * k + 4 ≤ L) (hW : LW s G d0 ma oa x0 M M E ja v H locs) (hI : INV k M) (hCE : CE M E) (hLB : LB cells slots k M) (hl : lv_has ls 7 [(0, .ref b), (1, .ref x0), (2, .ref (ma 0)), (3, .ref oa), (4, .int (nI (4 * k)))])
    (kk : ∀ (M1 : MS) (E1 : ES) (ja1 : Nat → Nat → Nat) (v1 : Int64) (H1 : Heap) (locs1 : List Loc) (cells1 slots1 : Nat) (ls1 : Array Slot), LW s G d0 ma oa x0 M1 M1 E1 ja1 v1 H1 locs1 → INV (k + 1) M1 → CE M1 E1 → LB cells1 slots1 (k + 1) M1 → lv_has ls1 7 [(0, .ref b), (1, .ref x0), (2, .ref (ma 0)), (3, .ref oa), (4, .int (nI (4 * k)))] → W p l e room_1 s m #[Value.ref b] below meth c H1 locs1 cells1 slots1 Q (F0 m 1981 ls1 [])) : W p l e room_1 s m #[Value.ref b] below meth c H locs cells slots Q (F0 m 1343 ls []) := by
  have hx := hC.1
  have hb := hC.2.1
  have hK := hF.1.1
  obtain ⟨z0, hz0⟩ : ∃ z, z = ja 8 0 := ⟨_, rfl⟩
  have hx0 : x0 = ja 8 0 := hW.2.1.symm
  subst hx0
  have hL := hF.2.2.2.2.2.1
  have hmI := hF.2.2.2.2.2.2.2.1
  have hl9 := hF.2.2.2.2.2.2.1
  have hRo : lR s ma oa oa := Or.inr (Or.inr rfl)
  have hk9 : k ≤ 511 := by omega
  refine lv_aload_n hx hb dW_1343 rfl (lv_at hl 1 rfl) ?_
  refine lw_arg (k := 1) hC hF hW.2.2.2.2 (by omega) (lv_sub hl [0, 4] rfl) (by decide) dW_1344 dW_1345 dW_1347 dW_1348 dW_1349 ?_
  refine lv_aload_n hx hb dW_1350 rfl (lv_at hl 3 rfl) ?_
  have hLB1 : LB (cells + 1) (slots + 6) (k + 1) (thr M (rT M (xs (4 * k + 1)))) := hLB.up (mc := 1) (ms := 6) rfl rfl (by omega) (by omega)
  have hcs := hLB1.room (INV_thr hI) (by omega)
  refine lw_wa (Rr := rowR M 18 (xs (4 * k + 1))) hF hW hCE hI (run_SH hC (lL_cellOf l G d0 mi (lR s ma oa) ja M E oa v (xs (4 * k + 1)) k hI hCE hRo hl9) (As := [.ref (ja 8 0), .int (xs (4 * k + 1)), .ref oa]) (rest := []) rfl rfl ml_L_174 sm_L_cellOf ini_L cw_L_cellOf (show nArgs yL_cellOf 3 from ⟨by decide, by decide, by decide +kernel⟩) lJ_blind (LW.pre hF hW) hl.1 (Nat.le_of_ble_eq_true rfl) ⟨Nat.le_of_ble_eq_true rfl, Nat.le_of_ble_eq_true rfl⟩ ⟨hcs.1, hcs.2⟩ rfl dW_1351) (fun E1 ja1 v1 H locs hW hv hCE1 hI1 => ?_)
  refine lv_istore (lv' := [(5, .int (rT M (xs (4 * k + 1)))), (0, .ref b), (1, .ref (ja 8 0)), (2, .ref (ma 0)), (3, .ref oa), (4, .int (nI (4 * k)))]) hx hb dW_1354 hl (by decide) rfl (fun ls hl => ?_)
  refine lv_aload_n hx hb dW_1356 rfl (lv_at hl 3 rfl) ?_
  refine lw_arg (k := 1) hC hF hW.2.2.2.2 (by omega) (lv_sub hl [1, 5] rfl) (by decide) dW_1357 dW_1358 dW_1360 dW_1361 dW_1362 ?_
  refine lw_ri (M' := thr M (rT M (xs (4 * k + 1)))) (Rr := rowR M 18 (xs (4 * k + 1))) hF hW (run_V hC (c9_cellOf l G ma M none (xs (4 * k + 1)) hmI hI.c) (As := [.int (xs (4 * k + 1))]) (rest := []) rfl rfl ml_L_176 im_X9_cellOf se_X9_cellOf ini_X9 cd_X9_cellOf ⟨rfl, na_X9_cellOf⟩ mB_blind (LW.rcv hF hW) (LW.prm hF hW) hl.1 (Nat.le_of_ble_eq_true rfl) ⟨Nat.le_of_ble_eq_true rfl, Nat.le_of_ble_eq_true rfl⟩ ⟨hcs.1, hcs.2⟩ rfl dW_1363) (fun H locs hW => ?_)
  refine lv_istore (lv' := [(6, .int (rowR M 18 (xs (4 * k + 1)))), (5, .int (rT M (xs (4 * k + 1)))), (0, .ref b), (1, .ref (ja 8 0)), (2, .ref (ma 0)), (3, .ref oa), (4, .int (nI (4 * k)))]) hx hb dW_1366 hl (by decide) rfl (fun ls hl => ?_)
  exact lw_tail hC hF hW rfl hv hl hcs dW_1368 dW_1369 dW_1372 dW_1374 dW_1379 dW_1381 dW_1384 dW_1385 dW_1386 dW_1387 dW_1389 dW_1390 dW_1391 dW_1396 (by decide) (kk _ E1 ja1 v1 H locs _ _ ls hW hI1 hCE1 hLB1 (lv_sub hl [2, 3, 4, 5, 6] rfl))
set_option maxHeartbeats 4000000 in
set_option maxRecDepth 100000 in
theorem lc_state (hC : CallFix p m c code 7 s #[Value.ref b] BIG RL) (hF : LF l s G d0 mi ma oa b L xs) (hi : 4 * k + 4 ≤ L) (hW : LW s G d0 ma oa x0 M M E ja v H locs) (hI : INV k M) (hCE : CE M E) (hLB : LB cells slots k M) (hl : lv_has ls 7 [(0, .ref b), (1, .ref x0), (2, .ref (ma 0)), (3, .ref oa), (4, .int (nI (4 * k)))])
    (kk : ∀ (M1 : MS) (E1 : ES) (ja1 : Nat → Nat → Nat) (v1 : Int64) (H1 : Heap) (locs1 : List Loc) (cells1 slots1 : Nat) (ls1 : Array Slot), LW s G d0 ma oa x0 M1 M1 E1 ja1 v1 H1 locs1 → INV (k + 1) M1 → CE M1 E1 → LB cells1 slots1 (k + 1) M1 → lv_has ls1 7 [(0, .ref b), (1, .ref x0), (2, .ref (ma 0)), (3, .ref oa), (4, .int (nI (4 * k)))] → W p l e room_1 s m #[Value.ref b] below meth c H1 locs1 cells1 slots1 Q (F0 m 1981 ls1 [])) : W p l e room_1 s m #[Value.ref b] below meth c H locs cells slots Q (F0 m 1399 ls []) := by
  have hx := hC.1
  have hb := hC.2.1
  have hK := hF.1.1
  obtain ⟨z0, hz0⟩ : ∃ z, z = ja 8 0 := ⟨_, rfl⟩
  have hx0 : x0 = ja 8 0 := hW.2.1.symm
  subst hx0
  have hL := hF.2.2.2.2.2.1
  have hmI := hF.2.2.2.2.2.2.2.1
  have hl9 := hF.2.2.2.2.2.2.1
  have hRo : lR s ma oa oa := Or.inr (Or.inr rfl)
  have hk9 : k ≤ 511 := by omega
  refine lv_aload_n hx hb dW_1399 rfl (lv_at hl 1 rfl) ?_
  refine lw_arg (k := 1) hC hF hW.2.2.2.2 (by omega) (lv_sub hl [0, 4] rfl) (by decide) dW_1400 dW_1401 dW_1403 dW_1404 dW_1405 ?_
  refine lv_aload_n hx hb dW_1406 rfl (lv_at hl 3 rfl) ?_
  have hLB1 : LB (cells + 1) (slots + 6) (k + 1) (thr M (rT M (xs (4 * k + 1)))) := hLB.up (mc := 1) (ms := 6) rfl rfl (by omega) (by omega)
  have hcs := hLB1.room (INV_thr hI) (by omega)
  refine lw_wa (Rr := rowR M 20 (xs (4 * k + 1))) hF hW hCE hI (run_SH hC (lL_state l G d0 mi (lR s ma oa) ja M E oa v (xs (4 * k + 1)) k hI hCE hRo hl9) (As := [.ref (ja 8 0), .int (xs (4 * k + 1)), .ref oa]) (rest := []) rfl rfl ml_L_177 sm_L_state ini_L cw_L_state (show nArgs yL_state 3 from ⟨by decide, by decide, by decide +kernel⟩) lJ_blind (LW.pre hF hW) hl.1 (Nat.le_of_ble_eq_true rfl) ⟨Nat.le_of_ble_eq_true rfl, Nat.le_of_ble_eq_true rfl⟩ ⟨hcs.1, hcs.2⟩ rfl dW_1407) (fun E1 ja1 v1 H locs hW hv hCE1 hI1 => ?_)
  refine lv_istore (lv' := [(5, .int (rT M (xs (4 * k + 1)))), (0, .ref b), (1, .ref (ja 8 0)), (2, .ref (ma 0)), (3, .ref oa), (4, .int (nI (4 * k)))]) hx hb dW_1410 hl (by decide) rfl (fun ls hl => ?_)
  refine lv_aload_n hx hb dW_1412 rfl (lv_at hl 3 rfl) ?_
  refine lw_arg (k := 1) hC hF hW.2.2.2.2 (by omega) (lv_sub hl [1, 5] rfl) (by decide) dW_1413 dW_1414 dW_1416 dW_1417 dW_1418 ?_
  refine lw_ri (M' := thr M (rT M (xs (4 * k + 1)))) (Rr := rowR M 20 (xs (4 * k + 1))) hF hW (run_V hC (c9_state l G ma M none (xs (4 * k + 1)) hmI hI.c) (As := [.int (xs (4 * k + 1))]) (rest := []) rfl rfl ml_L_179 im_X9_state se_X9_state ini_X9 cd_X9_state ⟨rfl, na_X9_state⟩ mB_blind (LW.rcv hF hW) (LW.prm hF hW) hl.1 (Nat.le_of_ble_eq_true rfl) ⟨Nat.le_of_ble_eq_true rfl, Nat.le_of_ble_eq_true rfl⟩ ⟨hcs.1, hcs.2⟩ rfl dW_1419) (fun H locs hW => ?_)
  refine lv_istore (lv' := [(6, .int (rowR M 20 (xs (4 * k + 1)))), (5, .int (rT M (xs (4 * k + 1)))), (0, .ref b), (1, .ref (ja 8 0)), (2, .ref (ma 0)), (3, .ref oa), (4, .int (nI (4 * k)))]) hx hb dW_1422 hl (by decide) rfl (fun ls hl => ?_)
  exact lw_tail hC hF hW rfl hv hl hcs dW_1424 dW_1425 dW_1428 dW_1430 dW_1435 dW_1437 dW_1440 dW_1441 dW_1442 dW_1443 dW_1445 dW_1446 dW_1447 dW_1452 (by decide) (kk _ E1 ja1 v1 H locs _ _ ls hW hI1 hCE1 hLB1 (lv_sub hl [2, 3, 4, 5, 6] rfl))
set_option maxHeartbeats 4000000 in
set_option maxRecDepth 100000 in
theorem lc_trayOf (hC : CallFix p m c code 7 s #[Value.ref b] BIG RL) (hF : LF l s G d0 mi ma oa b L xs) (hi : 4 * k + 4 ≤ L) (hW : LW s G d0 ma oa x0 M M E ja v H locs) (hI : INV k M) (hCE : CE M E) (hLB : LB cells slots k M) (hl : lv_has ls 7 [(0, .ref b), (1, .ref x0), (2, .ref (ma 0)), (3, .ref oa), (4, .int (nI (4 * k)))])
    (kk : ∀ (M1 : MS) (E1 : ES) (ja1 : Nat → Nat → Nat) (v1 : Int64) (H1 : Heap) (locs1 : List Loc) (cells1 slots1 : Nat) (ls1 : Array Slot), LW s G d0 ma oa x0 M1 M1 E1 ja1 v1 H1 locs1 → INV (k + 1) M1 → CE M1 E1 → LB cells1 slots1 (k + 1) M1 → lv_has ls1 7 [(0, .ref b), (1, .ref x0), (2, .ref (ma 0)), (3, .ref oa), (4, .int (nI (4 * k)))] → W p l e room_1 s m #[Value.ref b] below meth c H1 locs1 cells1 slots1 Q (F0 m 1981 ls1 [])) : W p l e room_1 s m #[Value.ref b] below meth c H locs cells slots Q (F0 m 1455 ls []) := by
  have hx := hC.1
  have hb := hC.2.1
  have hK := hF.1.1
  obtain ⟨z0, hz0⟩ : ∃ z, z = ja 8 0 := ⟨_, rfl⟩
  have hx0 : x0 = ja 8 0 := hW.2.1.symm
  subst hx0
  have hL := hF.2.2.2.2.2.1
  have hmI := hF.2.2.2.2.2.2.2.1
  have hl9 := hF.2.2.2.2.2.2.1
  have hRo : lR s ma oa oa := Or.inr (Or.inr rfl)
  have hk9 : k ≤ 511 := by omega
  refine lv_aload_n hx hb dW_1455 rfl (lv_at hl 1 rfl) ?_
  refine lw_arg (k := 1) hC hF hW.2.2.2.2 (by omega) (lv_sub hl [0, 4] rfl) (by decide) dW_1456 dW_1457 dW_1459 dW_1460 dW_1461 ?_
  refine lv_aload_n hx hb dW_1462 rfl (lv_at hl 3 rfl) ?_
  have hLB1 : LB (cells + 1) (slots + 6) (k + 1) (thr M (rT M (xs (4 * k + 1)))) := hLB.up (mc := 1) (ms := 6) rfl rfl (by omega) (by omega)
  have hcs := hLB1.room (INV_thr hI) (by omega)
  refine lw_wa (Rr := rowR M 21 (xs (4 * k + 1))) hF hW hCE hI (run_SH hC (lL_trayOf l G d0 mi (lR s ma oa) ja M E oa v (xs (4 * k + 1)) k hI hCE hRo hl9) (As := [.ref (ja 8 0), .int (xs (4 * k + 1)), .ref oa]) (rest := []) rfl rfl ml_L_180 sm_L_trayOf ini_L cw_L_trayOf (show nArgs yL_trayOf 3 from ⟨by decide, by decide, by decide +kernel⟩) lJ_blind (LW.pre hF hW) hl.1 (Nat.le_of_ble_eq_true rfl) ⟨Nat.le_of_ble_eq_true rfl, Nat.le_of_ble_eq_true rfl⟩ ⟨hcs.1, hcs.2⟩ rfl dW_1463) (fun E1 ja1 v1 H locs hW hv hCE1 hI1 => ?_)
  refine lv_istore (lv' := [(5, .int (rT M (xs (4 * k + 1)))), (0, .ref b), (1, .ref (ja 8 0)), (2, .ref (ma 0)), (3, .ref oa), (4, .int (nI (4 * k)))]) hx hb dW_1466 hl (by decide) rfl (fun ls hl => ?_)
  refine lv_aload_n hx hb dW_1468 rfl (lv_at hl 3 rfl) ?_
  refine lw_arg (k := 1) hC hF hW.2.2.2.2 (by omega) (lv_sub hl [1, 5] rfl) (by decide) dW_1469 dW_1470 dW_1472 dW_1473 dW_1474 ?_
  refine lw_ri (M' := thr M (rT M (xs (4 * k + 1)))) (Rr := rowR M 21 (xs (4 * k + 1))) hF hW (run_V hC (c9_trayOf l G ma M none (xs (4 * k + 1)) hmI hI.c) (As := [.int (xs (4 * k + 1))]) (rest := []) rfl rfl ml_L_182 im_X9_trayOf se_X9_trayOf ini_X9 cd_X9_trayOf ⟨rfl, na_X9_trayOf⟩ mB_blind (LW.rcv hF hW) (LW.prm hF hW) hl.1 (Nat.le_of_ble_eq_true rfl) ⟨Nat.le_of_ble_eq_true rfl, Nat.le_of_ble_eq_true rfl⟩ ⟨hcs.1, hcs.2⟩ rfl dW_1475) (fun H locs hW => ?_)
  refine lv_istore (lv' := [(6, .int (rowR M 21 (xs (4 * k + 1)))), (5, .int (rT M (xs (4 * k + 1)))), (0, .ref b), (1, .ref (ja 8 0)), (2, .ref (ma 0)), (3, .ref oa), (4, .int (nI (4 * k)))]) hx hb dW_1478 hl (by decide) rfl (fun ls hl => ?_)
  exact lw_tail hC hF hW rfl hv hl hcs dW_1480 dW_1481 dW_1484 dW_1486 dW_1491 dW_1493 dW_1496 dW_1497 dW_1498 dW_1499 dW_1501 dW_1502 dW_1503 dW_1508 (by decide) (kk _ E1 ja1 v1 H locs _ _ ls hW hI1 hCE1 hLB1 (lv_sub hl [2, 3, 4, 5, 6] rfl))
set_option maxHeartbeats 4000000 in
set_option maxRecDepth 100000 in
theorem lc_asked (hC : CallFix p m c code 7 s #[Value.ref b] BIG RL) (hF : LF l s G d0 mi ma oa b L xs) (hi : 4 * k + 4 ≤ L) (hW : LW s G d0 ma oa x0 M M E ja v H locs) (hI : INV k M) (hCE : CE M E) (hLB : LB cells slots k M) (hl : lv_has ls 7 [(0, .ref b), (1, .ref x0), (2, .ref (ma 0)), (3, .ref oa), (4, .int (nI (4 * k)))])
    (kk : ∀ (M1 : MS) (E1 : ES) (ja1 : Nat → Nat → Nat) (v1 : Int64) (H1 : Heap) (locs1 : List Loc) (cells1 slots1 : Nat) (ls1 : Array Slot), LW s G d0 ma oa x0 M1 M1 E1 ja1 v1 H1 locs1 → INV (k + 1) M1 → CE M1 E1 → LB cells1 slots1 (k + 1) M1 → lv_has ls1 7 [(0, .ref b), (1, .ref x0), (2, .ref (ma 0)), (3, .ref oa), (4, .int (nI (4 * k)))] → W p l e room_1 s m #[Value.ref b] below meth c H1 locs1 cells1 slots1 Q (F0 m 1981 ls1 [])) : W p l e room_1 s m #[Value.ref b] below meth c H locs cells slots Q (F0 m 1511 ls []) := by
  have hx := hC.1
  have hb := hC.2.1
  have hK := hF.1.1
  obtain ⟨z0, hz0⟩ : ∃ z, z = ja 8 0 := ⟨_, rfl⟩
  have hx0 : x0 = ja 8 0 := hW.2.1.symm
  subst hx0
  have hL := hF.2.2.2.2.2.1
  have hmI := hF.2.2.2.2.2.2.2.1
  have hl9 := hF.2.2.2.2.2.2.1
  have hRo : lR s ma oa oa := Or.inr (Or.inr rfl)
  have hk9 : k ≤ 511 := by omega
  refine lv_aload_n hx hb dW_1511 rfl (lv_at hl 1 rfl) ?_
  refine lw_arg (k := 1) hC hF hW.2.2.2.2 (by omega) (lv_sub hl [0, 4] rfl) (by decide) dW_1512 dW_1513 dW_1515 dW_1516 dW_1517 ?_
  refine lv_aload_n hx hb dW_1518 rfl (lv_at hl 3 rfl) ?_
  have hLB1 : LB (cells + 1) (slots + 6) (k + 1) (thr M (rT M (xs (4 * k + 1)))) := hLB.up (mc := 1) (ms := 6) rfl rfl (by omega) (by omega)
  have hcs := hLB1.room (INV_thr hI) (by omega)
  refine lw_wa (Rr := rowR M 24 (xs (4 * k + 1))) hF hW hCE hI (run_SH hC (lL_asked l G d0 mi (lR s ma oa) ja M E oa v (xs (4 * k + 1)) k hI hCE hRo hl9) (As := [.ref (ja 8 0), .int (xs (4 * k + 1)), .ref oa]) (rest := []) rfl rfl ml_L_183 sm_L_asked ini_L cw_L_asked (show nArgs yL_asked 3 from ⟨by decide, by decide, by decide +kernel⟩) lJ_blind (LW.pre hF hW) hl.1 (Nat.le_of_ble_eq_true rfl) ⟨Nat.le_of_ble_eq_true rfl, Nat.le_of_ble_eq_true rfl⟩ ⟨hcs.1, hcs.2⟩ rfl dW_1519) (fun E1 ja1 v1 H locs hW hv hCE1 hI1 => ?_)
  refine lv_istore (lv' := [(5, .int (rT M (xs (4 * k + 1)))), (0, .ref b), (1, .ref (ja 8 0)), (2, .ref (ma 0)), (3, .ref oa), (4, .int (nI (4 * k)))]) hx hb dW_1522 hl (by decide) rfl (fun ls hl => ?_)
  refine lv_aload_n hx hb dW_1524 rfl (lv_at hl 3 rfl) ?_
  refine lw_arg (k := 1) hC hF hW.2.2.2.2 (by omega) (lv_sub hl [1, 5] rfl) (by decide) dW_1525 dW_1526 dW_1528 dW_1529 dW_1530 ?_
  refine lw_ri (M' := thr M (rT M (xs (4 * k + 1)))) (Rr := rowR M 24 (xs (4 * k + 1))) hF hW (run_V hC (c9_asked l G ma M none (xs (4 * k + 1)) hmI hI.c) (As := [.int (xs (4 * k + 1))]) (rest := []) rfl rfl ml_L_185 im_X9_asked se_X9_asked ini_X9 cd_X9_asked ⟨rfl, na_X9_asked⟩ mB_blind (LW.rcv hF hW) (LW.prm hF hW) hl.1 (Nat.le_of_ble_eq_true rfl) ⟨Nat.le_of_ble_eq_true rfl, Nat.le_of_ble_eq_true rfl⟩ ⟨hcs.1, hcs.2⟩ rfl dW_1531) (fun H locs hW => ?_)
  refine lv_istore (lv' := [(6, .int (rowR M 24 (xs (4 * k + 1)))), (5, .int (rT M (xs (4 * k + 1)))), (0, .ref b), (1, .ref (ja 8 0)), (2, .ref (ma 0)), (3, .ref oa), (4, .int (nI (4 * k)))]) hx hb dW_1534 hl (by decide) rfl (fun ls hl => ?_)
  exact lw_tail hC hF hW rfl hv hl hcs dW_1536 dW_1537 dW_1540 dW_1542 dW_1547 dW_1549 dW_1552 dW_1553 dW_1554 dW_1555 dW_1557 dW_1558 dW_1559 dW_1564 (by decide) (kk _ E1 ja1 v1 H locs _ _ ls hW hI1 hCE1 hLB1 (lv_sub hl [2, 3, 4, 5, 6] rfl))
set_option maxHeartbeats 4000000 in
set_option maxRecDepth 100000 in
theorem lc_stock (hC : CallFix p m c code 7 s #[Value.ref b] BIG RL) (hF : LF l s G d0 mi ma oa b L xs) (hi : 4 * k + 4 ≤ L) (hW : LW s G d0 ma oa x0 M M E ja v H locs) (hI : INV k M) (hCE : CE M E) (hLB : LB cells slots k M) (hl : lv_has ls 7 [(0, .ref b), (1, .ref x0), (2, .ref (ma 0)), (3, .ref oa), (4, .int (nI (4 * k)))])
    (kk : ∀ (M1 : MS) (E1 : ES) (ja1 : Nat → Nat → Nat) (v1 : Int64) (H1 : Heap) (locs1 : List Loc) (cells1 slots1 : Nat) (ls1 : Array Slot), LW s G d0 ma oa x0 M1 M1 E1 ja1 v1 H1 locs1 → INV (k + 1) M1 → CE M1 E1 → LB cells1 slots1 (k + 1) M1 → lv_has ls1 7 [(0, .ref b), (1, .ref x0), (2, .ref (ma 0)), (3, .ref oa), (4, .int (nI (4 * k)))] → W p l e room_1 s m #[Value.ref b] below meth c H1 locs1 cells1 slots1 Q (F0 m 1981 ls1 [])) : W p l e room_1 s m #[Value.ref b] below meth c H locs cells slots Q (F0 m 1688 ls []) := by
  have hx := hC.1
  have hb := hC.2.1
  have hK := hF.1.1
  obtain ⟨z0, hz0⟩ : ∃ z, z = ja 8 0 := ⟨_, rfl⟩
  have hx0 : x0 = ja 8 0 := hW.2.1.symm
  subst hx0
  have hL := hF.2.2.2.2.2.1
  have hmI := hF.2.2.2.2.2.2.2.1
  have hl9 := hF.2.2.2.2.2.2.1
  have hRo : lR s ma oa oa := Or.inr (Or.inr rfl)
  have hk9 : k ≤ 511 := by omega
  refine lv_aload_n hx hb dW_1688 rfl (lv_at hl 1 rfl) ?_
  refine lw_arg (k := 1) hC hF hW.2.2.2.2 (by omega) (lv_sub hl [0, 4] rfl) (by decide) dW_1689 dW_1690 dW_1692 dW_1693 dW_1694 ?_
  refine lv_aload_n hx hb dW_1695 rfl (lv_at hl 3 rfl) ?_
  have hLB1 : LB (cells + 1) (slots + 6) (k + 1) (thr M (gT (xs (4 * k + 1)))) := hLB.up (mc := 1) (ms := 6) rfl rfl (by omega) (by omega)
  have hcs := hLB1.room (INV_thr hI) (by omega)
  refine lw_wa (Rr := stkR M (xs (4 * k + 1))) hF hW hCE hI (run_SH hC (lL_stock l G d0 mi (lR s ma oa) ja M E oa v (xs (4 * k + 1)) k hI hCE hRo hl9) (As := [.ref (ja 8 0), .int (xs (4 * k + 1)), .ref oa]) (rest := []) rfl rfl ml_L_209 sm_L_stock ini_L cw_L_stock (show nArgs yL_stock 3 from ⟨by decide, by decide, by decide +kernel⟩) lJ_blind (LW.pre hF hW) hl.1 (Nat.le_of_ble_eq_true rfl) ⟨Nat.le_of_ble_eq_true rfl, Nat.le_of_ble_eq_true rfl⟩ ⟨hcs.1, hcs.2⟩ rfl dW_1696) (fun E1 ja1 v1 H locs hW hv hCE1 hI1 => ?_)
  refine lv_istore (lv' := [(5, .int (gT (xs (4 * k + 1)))), (0, .ref b), (1, .ref (ja 8 0)), (2, .ref (ma 0)), (3, .ref oa), (4, .int (nI (4 * k)))]) hx hb dW_1699 hl (by decide) rfl (fun ls hl => ?_)
  refine lv_aload_n hx hb dW_1701 rfl (lv_at hl 3 rfl) ?_
  refine lw_arg (k := 1) hC hF hW.2.2.2.2 (by omega) (lv_sub hl [1, 5] rfl) (by decide) dW_1702 dW_1703 dW_1705 dW_1706 dW_1707 ?_
  refine lw_ri (M' := thr M (gT (xs (4 * k + 1)))) (Rr := stkR M (xs (4 * k + 1))) hF hW (run_V hC (c9_stock l G ma M none (xs (4 * k + 1)) hmI hI.c) (As := [.int (xs (4 * k + 1))]) (rest := []) rfl rfl ml_L_211 im_X9_stock se_X9_stock ini_X9 cd_X9_stock ⟨rfl, na_X9_stock⟩ mB_blind (LW.rcv hF hW) (LW.prm hF hW) hl.1 (Nat.le_of_ble_eq_true rfl) ⟨Nat.le_of_ble_eq_true rfl, Nat.le_of_ble_eq_true rfl⟩ ⟨hcs.1, hcs.2⟩ rfl dW_1708) (fun H locs hW => ?_)
  refine lv_istore (lv' := [(6, .int (stkR M (xs (4 * k + 1)))), (5, .int (gT (xs (4 * k + 1)))), (0, .ref b), (1, .ref (ja 8 0)), (2, .ref (ma 0)), (3, .ref oa), (4, .int (nI (4 * k)))]) hx hb dW_1711 hl (by decide) rfl (fun ls hl => ?_)
  exact lw_tail hC hF hW rfl hv hl hcs dW_1713 dW_1714 dW_1717 dW_1719 dW_1724 dW_1726 dW_1729 dW_1730 dW_1731 dW_1732 dW_1734 dW_1735 dW_1736 dW_1741 (by decide) (kk _ E1 ja1 v1 H locs _ _ ls hW hI1 hCE1 hLB1 (lv_sub hl [2, 3, 4, 5, 6] rfl))
set_option maxHeartbeats 4000000 in
set_option maxRecDepth 100000 in
theorem lc_stockByPicks (hC : CallFix p m c code 7 s #[Value.ref b] BIG RL) (hF : LF l s G d0 mi ma oa b L xs) (hi : 4 * k + 4 ≤ L) (hW : LW s G d0 ma oa x0 M M E ja v H locs) (hI : INV k M) (hCE : CE M E) (hLB : LB cells slots k M) (hl : lv_has ls 7 [(0, .ref b), (1, .ref x0), (2, .ref (ma 0)), (3, .ref oa), (4, .int (nI (4 * k)))])
    (kk : ∀ (M1 : MS) (E1 : ES) (ja1 : Nat → Nat → Nat) (v1 : Int64) (H1 : Heap) (locs1 : List Loc) (cells1 slots1 : Nat) (ls1 : Array Slot), LW s G d0 ma oa x0 M1 M1 E1 ja1 v1 H1 locs1 → INV (k + 1) M1 → CE M1 E1 → LB cells1 slots1 (k + 1) M1 → lv_has ls1 7 [(0, .ref b), (1, .ref x0), (2, .ref (ma 0)), (3, .ref oa), (4, .int (nI (4 * k)))] → W p l e room_1 s m #[Value.ref b] below meth c H1 locs1 cells1 slots1 Q (F0 m 1981 ls1 [])) : W p l e room_1 s m #[Value.ref b] below meth c H locs cells slots Q (F0 m 1744 ls []) := by
  have hx := hC.1
  have hb := hC.2.1
  have hK := hF.1.1
  obtain ⟨z0, hz0⟩ : ∃ z, z = ja 8 0 := ⟨_, rfl⟩
  have hx0 : x0 = ja 8 0 := hW.2.1.symm
  subst hx0
  have hL := hF.2.2.2.2.2.1
  have hmI := hF.2.2.2.2.2.2.2.1
  have hl9 := hF.2.2.2.2.2.2.1
  have hRo : lR s ma oa oa := Or.inr (Or.inr rfl)
  have hk9 : k ≤ 511 := by omega
  refine lv_aload_n hx hb dW_1744 rfl (lv_at hl 1 rfl) ?_
  refine lw_arg (k := 1) hC hF hW.2.2.2.2 (by omega) (lv_sub hl [0, 4] rfl) (by decide) dW_1745 dW_1746 dW_1748 dW_1749 dW_1750 ?_
  refine lv_aload_n hx hb dW_1751 rfl (lv_at hl 3 rfl) ?_
  have hLB1 : LB (cells + 1) (slots + 6) (k + 1) (thr M (gT (xs (4 * k + 1)))) := hLB.up (mc := 1) (ms := 6) rfl rfl (by omega) (by omega)
  have hcs := hLB1.room (INV_thr hI) (by omega)
  refine lw_wa (Rr := sbpR M (xs (4 * k + 1))) hF hW hCE hI (run_SH hC (lL_stockByPicks l G d0 mi (lR s ma oa) ja M E oa v (xs (4 * k + 1)) k hI hCE hRo hl9) (As := [.ref (ja 8 0), .int (xs (4 * k + 1)), .ref oa]) (rest := []) rfl rfl ml_L_212 sm_L_stockByPicks ini_L cw_L_stockByPicks (show nArgs yL_stockByPicks 3 from ⟨by decide, by decide, by decide +kernel⟩) lJ_blind (LW.pre hF hW) hl.1 (Nat.le_of_ble_eq_true rfl) ⟨Nat.le_of_ble_eq_true rfl, Nat.le_of_ble_eq_true rfl⟩ ⟨hcs.1, hcs.2⟩ rfl dW_1752) (fun E1 ja1 v1 H locs hW hv hCE1 hI1 => ?_)
  refine lv_istore (lv' := [(5, .int (gT (xs (4 * k + 1)))), (0, .ref b), (1, .ref (ja 8 0)), (2, .ref (ma 0)), (3, .ref oa), (4, .int (nI (4 * k)))]) hx hb dW_1755 hl (by decide) rfl (fun ls hl => ?_)
  refine lv_aload_n hx hb dW_1757 rfl (lv_at hl 3 rfl) ?_
  refine lw_arg (k := 1) hC hF hW.2.2.2.2 (by omega) (lv_sub hl [1, 5] rfl) (by decide) dW_1758 dW_1759 dW_1761 dW_1762 dW_1763 ?_
  refine lw_ri (M' := thr M (gT (xs (4 * k + 1)))) (Rr := sbpR M (xs (4 * k + 1))) hF hW (run_V hC (c9_stockByPicks l G ma M none (xs (4 * k + 1)) hmI hI.c) (As := [.int (xs (4 * k + 1))]) (rest := []) rfl rfl ml_L_214 im_X9_stockByPicks se_X9_stockByPicks ini_X9 cd_X9_stockByPicks ⟨rfl, na_X9_stockByPicks⟩ mB_blind (LW.rcv hF hW) (LW.prm hF hW) hl.1 (Nat.le_of_ble_eq_true rfl) ⟨Nat.le_of_ble_eq_true rfl, Nat.le_of_ble_eq_true rfl⟩ ⟨hcs.1, hcs.2⟩ rfl dW_1764) (fun H locs hW => ?_)
  refine lv_istore (lv' := [(6, .int (sbpR M (xs (4 * k + 1)))), (5, .int (gT (xs (4 * k + 1)))), (0, .ref b), (1, .ref (ja 8 0)), (2, .ref (ma 0)), (3, .ref oa), (4, .int (nI (4 * k)))]) hx hb dW_1767 hl (by decide) rfl (fun ls hl => ?_)
  exact lw_tail hC hF hW rfl hv hl hcs dW_1769 dW_1770 dW_1773 dW_1775 dW_1780 dW_1782 dW_1785 dW_1786 dW_1787 dW_1788 dW_1790 dW_1791 dW_1792 dW_1797 (by decide) (kk _ E1 ja1 v1 H locs _ _ ls hW hI1 hCE1 hLB1 (lv_sub hl [2, 3, 4, 5, 6] rfl))
set_option maxHeartbeats 4000000 in
set_option maxRecDepth 100000 in
theorem lc_pickedFrom (hC : CallFix p m c code 7 s #[Value.ref b] BIG RL) (hF : LF l s G d0 mi ma oa b L xs) (hi : 4 * k + 4 ≤ L) (hW : LW s G d0 ma oa x0 M M E ja v H locs) (hI : INV k M) (hCE : CE M E) (hLB : LB cells slots k M) (hl : lv_has ls 7 [(0, .ref b), (1, .ref x0), (2, .ref (ma 0)), (3, .ref oa), (4, .int (nI (4 * k)))])
    (kk : ∀ (M1 : MS) (E1 : ES) (ja1 : Nat → Nat → Nat) (v1 : Int64) (H1 : Heap) (locs1 : List Loc) (cells1 slots1 : Nat) (ls1 : Array Slot), LW s G d0 ma oa x0 M1 M1 E1 ja1 v1 H1 locs1 → INV (k + 1) M1 → CE M1 E1 → LB cells1 slots1 (k + 1) M1 → lv_has ls1 7 [(0, .ref b), (1, .ref x0), (2, .ref (ma 0)), (3, .ref oa), (4, .int (nI (4 * k)))] → W p l e room_1 s m #[Value.ref b] below meth c H1 locs1 cells1 slots1 Q (F0 m 1981 ls1 [])) : W p l e room_1 s m #[Value.ref b] below meth c H locs cells slots Q (F0 m 1813 ls []) := by
  have hx := hC.1
  have hb := hC.2.1
  have hK := hF.1.1
  obtain ⟨z0, hz0⟩ : ∃ z, z = ja 8 0 := ⟨_, rfl⟩
  have hx0 : x0 = ja 8 0 := hW.2.1.symm
  subst hx0
  have hL := hF.2.2.2.2.2.1
  have hmI := hF.2.2.2.2.2.2.2.1
  have hl9 := hF.2.2.2.2.2.2.1
  have hRo : lR s ma oa oa := Or.inr (Or.inr rfl)
  have hk9 : k ≤ 511 := by omega
  refine lv_aload_n hx hb dW_1813 rfl (lv_at hl 1 rfl) ?_
  refine lw_arg (k := 1) hC hF hW.2.2.2.2 (by omega) (lv_sub hl [0, 4] rfl) (by decide) dW_1814 dW_1815 dW_1817 dW_1818 dW_1819 ?_
  refine lv_aload_n hx hb dW_1820 rfl (lv_at hl 3 rfl) ?_
  have hLB1 : LB (cells + 1) (slots + 6) (k + 1) (thr M (pT M (xs (4 * k + 1)))) := hLB.up (mc := 1) (ms := 6) rfl rfl (by omega) (by omega)
  have hcs := hLB1.room (INV_thr hI) (by omega)
  refine lw_wa (Rr := pckR M 35 (xs (4 * k + 1))) hF hW hCE hI (run_SH hC (lL_pickedFrom l G d0 mi (lR s ma oa) ja M E oa v (xs (4 * k + 1)) k hI hCE hRo hl9) (As := [.ref (ja 8 0), .int (xs (4 * k + 1)), .ref oa]) (rest := []) rfl rfl ml_L_219 sm_L_pickedFrom ini_L cw_L_pickedFrom (show nArgs yL_pickedFrom 3 from ⟨by decide, by decide, by decide +kernel⟩) lJ_blind (LW.pre hF hW) hl.1 (Nat.le_of_ble_eq_true rfl) ⟨Nat.le_of_ble_eq_true rfl, Nat.le_of_ble_eq_true rfl⟩ ⟨hcs.1, hcs.2⟩ rfl dW_1821) (fun E1 ja1 v1 H locs hW hv hCE1 hI1 => ?_)
  refine lv_istore (lv' := [(5, .int (pT M (xs (4 * k + 1)))), (0, .ref b), (1, .ref (ja 8 0)), (2, .ref (ma 0)), (3, .ref oa), (4, .int (nI (4 * k)))]) hx hb dW_1824 hl (by decide) rfl (fun ls hl => ?_)
  refine lv_aload_n hx hb dW_1826 rfl (lv_at hl 3 rfl) ?_
  refine lw_arg (k := 1) hC hF hW.2.2.2.2 (by omega) (lv_sub hl [1, 5] rfl) (by decide) dW_1827 dW_1828 dW_1830 dW_1831 dW_1832 ?_
  refine lw_ri (M' := thr M (pT M (xs (4 * k + 1)))) (Rr := pckR M 35 (xs (4 * k + 1))) hF hW (run_V hC (c9_pickedFrom l G ma M none (xs (4 * k + 1)) hmI hI.p.1 (Nat.le_trans (Nat.le_add_right _ _) hI.p.2.1)) (As := [.int (xs (4 * k + 1))]) (rest := []) rfl rfl ml_L_221 im_X9_pickedFrom se_X9_pickedFrom ini_X9 cd_X9_pickedFrom ⟨rfl, na_X9_pickedFrom⟩ mB_blind (LW.rcv hF hW) (LW.prm hF hW) hl.1 (Nat.le_of_ble_eq_true rfl) ⟨Nat.le_of_ble_eq_true rfl, Nat.le_of_ble_eq_true rfl⟩ ⟨hcs.1, hcs.2⟩ rfl dW_1833) (fun H locs hW => ?_)
  refine lv_istore (lv' := [(6, .int (pckR M 35 (xs (4 * k + 1)))), (5, .int (pT M (xs (4 * k + 1)))), (0, .ref b), (1, .ref (ja 8 0)), (2, .ref (ma 0)), (3, .ref oa), (4, .int (nI (4 * k)))]) hx hb dW_1836 hl (by decide) rfl (fun ls hl => ?_)
  exact lw_tail hC hF hW rfl hv hl hcs dW_1838 dW_1839 dW_1842 dW_1844 dW_1849 dW_1851 dW_1854 dW_1855 dW_1856 dW_1857 dW_1859 dW_1860 dW_1861 dW_1866 (by decide) (kk _ E1 ja1 v1 H locs _ _ ls hW hI1 hCE1 hLB1 (lv_sub hl [2, 3, 4, 5, 6] rfl))
set_option maxHeartbeats 4000000 in
set_option maxRecDepth 100000 in
theorem lc_pickedFor (hC : CallFix p m c code 7 s #[Value.ref b] BIG RL) (hF : LF l s G d0 mi ma oa b L xs) (hi : 4 * k + 4 ≤ L) (hW : LW s G d0 ma oa x0 M M E ja v H locs) (hI : INV k M) (hCE : CE M E) (hLB : LB cells slots k M) (hl : lv_has ls 7 [(0, .ref b), (1, .ref x0), (2, .ref (ma 0)), (3, .ref oa), (4, .int (nI (4 * k)))])
    (kk : ∀ (M1 : MS) (E1 : ES) (ja1 : Nat → Nat → Nat) (v1 : Int64) (H1 : Heap) (locs1 : List Loc) (cells1 slots1 : Nat) (ls1 : Array Slot), LW s G d0 ma oa x0 M1 M1 E1 ja1 v1 H1 locs1 → INV (k + 1) M1 → CE M1 E1 → LB cells1 slots1 (k + 1) M1 → lv_has ls1 7 [(0, .ref b), (1, .ref x0), (2, .ref (ma 0)), (3, .ref oa), (4, .int (nI (4 * k)))] → W p l e room_1 s m #[Value.ref b] below meth c H1 locs1 cells1 slots1 Q (F0 m 1981 ls1 [])) : W p l e room_1 s m #[Value.ref b] below meth c H locs cells slots Q (F0 m 1869 ls []) := by
  have hx := hC.1
  have hb := hC.2.1
  have hK := hF.1.1
  obtain ⟨z0, hz0⟩ : ∃ z, z = ja 8 0 := ⟨_, rfl⟩
  have hx0 : x0 = ja 8 0 := hW.2.1.symm
  subst hx0
  have hL := hF.2.2.2.2.2.1
  have hmI := hF.2.2.2.2.2.2.2.1
  have hl9 := hF.2.2.2.2.2.2.1
  have hRo : lR s ma oa oa := Or.inr (Or.inr rfl)
  have hk9 : k ≤ 511 := by omega
  refine lv_aload_n hx hb dW_1869 rfl (lv_at hl 1 rfl) ?_
  refine lw_arg (k := 1) hC hF hW.2.2.2.2 (by omega) (lv_sub hl [0, 4] rfl) (by decide) dW_1870 dW_1871 dW_1873 dW_1874 dW_1875 ?_
  refine lv_aload_n hx hb dW_1876 rfl (lv_at hl 3 rfl) ?_
  have hLB1 : LB (cells + 1) (slots + 6) (k + 1) (thr M (pT M (xs (4 * k + 1)))) := hLB.up (mc := 1) (ms := 6) rfl rfl (by omega) (by omega)
  have hcs := hLB1.room (INV_thr hI) (by omega)
  refine lw_wa (Rr := pckR M 36 (xs (4 * k + 1))) hF hW hCE hI (run_SH hC (lL_pickedFor l G d0 mi (lR s ma oa) ja M E oa v (xs (4 * k + 1)) k hI hCE hRo hl9) (As := [.ref (ja 8 0), .int (xs (4 * k + 1)), .ref oa]) (rest := []) rfl rfl ml_L_222 sm_L_pickedFor ini_L cw_L_pickedFor (show nArgs yL_pickedFor 3 from ⟨by decide, by decide, by decide +kernel⟩) lJ_blind (LW.pre hF hW) hl.1 (Nat.le_of_ble_eq_true rfl) ⟨Nat.le_of_ble_eq_true rfl, Nat.le_of_ble_eq_true rfl⟩ ⟨hcs.1, hcs.2⟩ rfl dW_1877) (fun E1 ja1 v1 H locs hW hv hCE1 hI1 => ?_)
  refine lv_istore (lv' := [(5, .int (pT M (xs (4 * k + 1)))), (0, .ref b), (1, .ref (ja 8 0)), (2, .ref (ma 0)), (3, .ref oa), (4, .int (nI (4 * k)))]) hx hb dW_1880 hl (by decide) rfl (fun ls hl => ?_)
  refine lv_aload_n hx hb dW_1882 rfl (lv_at hl 3 rfl) ?_
  refine lw_arg (k := 1) hC hF hW.2.2.2.2 (by omega) (lv_sub hl [1, 5] rfl) (by decide) dW_1883 dW_1884 dW_1886 dW_1887 dW_1888 ?_
  refine lw_ri (M' := thr M (pT M (xs (4 * k + 1)))) (Rr := pckR M 36 (xs (4 * k + 1))) hF hW (run_V hC (c9_pickedFor l G ma M none (xs (4 * k + 1)) hmI hI.p.1 (Nat.le_trans (Nat.le_add_right _ _) hI.p.2.1)) (As := [.int (xs (4 * k + 1))]) (rest := []) rfl rfl ml_L_224 im_X9_pickedFor se_X9_pickedFor ini_X9 cd_X9_pickedFor ⟨rfl, na_X9_pickedFor⟩ mB_blind (LW.rcv hF hW) (LW.prm hF hW) hl.1 (Nat.le_of_ble_eq_true rfl) ⟨Nat.le_of_ble_eq_true rfl, Nat.le_of_ble_eq_true rfl⟩ ⟨hcs.1, hcs.2⟩ rfl dW_1889) (fun H locs hW => ?_)
  refine lv_istore (lv' := [(6, .int (pckR M 36 (xs (4 * k + 1)))), (5, .int (pT M (xs (4 * k + 1)))), (0, .ref b), (1, .ref (ja 8 0)), (2, .ref (ma 0)), (3, .ref oa), (4, .int (nI (4 * k)))]) hx hb dW_1892 hl (by decide) rfl (fun ls hl => ?_)
  exact lw_tail hC hF hW rfl hv hl hcs dW_1894 dW_1895 dW_1898 dW_1900 dW_1905 dW_1907 dW_1910 dW_1911 dW_1912 dW_1913 dW_1915 dW_1916 dW_1917 dW_1922 (by decide) (kk _ E1 ja1 v1 H locs _ _ ls hW hI1 hCE1 hLB1 (lv_sub hl [2, 3, 4, 5, 6] rfl))
set_option maxHeartbeats 4000000 in
set_option maxRecDepth 100000 in
theorem lc_pickedIn (hC : CallFix p m c code 7 s #[Value.ref b] BIG RL) (hF : LF l s G d0 mi ma oa b L xs) (hi : 4 * k + 4 ≤ L) (hW : LW s G d0 ma oa x0 M M E ja v H locs) (hI : INV k M) (hCE : CE M E) (hLB : LB cells slots k M) (hl : lv_has ls 7 [(0, .ref b), (1, .ref x0), (2, .ref (ma 0)), (3, .ref oa), (4, .int (nI (4 * k)))])
    (kk : ∀ (M1 : MS) (E1 : ES) (ja1 : Nat → Nat → Nat) (v1 : Int64) (H1 : Heap) (locs1 : List Loc) (cells1 slots1 : Nat) (ls1 : Array Slot), LW s G d0 ma oa x0 M1 M1 E1 ja1 v1 H1 locs1 → INV (k + 1) M1 → CE M1 E1 → LB cells1 slots1 (k + 1) M1 → lv_has ls1 7 [(0, .ref b), (1, .ref x0), (2, .ref (ma 0)), (3, .ref oa), (4, .int (nI (4 * k)))] → W p l e room_1 s m #[Value.ref b] below meth c H1 locs1 cells1 slots1 Q (F0 m 1981 ls1 [])) : W p l e room_1 s m #[Value.ref b] below meth c H locs cells slots Q (F0 m 1925 ls []) := by
  have hx := hC.1
  have hb := hC.2.1
  have hK := hF.1.1
  obtain ⟨z0, hz0⟩ : ∃ z, z = ja 8 0 := ⟨_, rfl⟩
  have hx0 : x0 = ja 8 0 := hW.2.1.symm
  subst hx0
  have hL := hF.2.2.2.2.2.1
  have hmI := hF.2.2.2.2.2.2.2.1
  have hl9 := hF.2.2.2.2.2.2.1
  have hRo : lR s ma oa oa := Or.inr (Or.inr rfl)
  have hk9 : k ≤ 511 := by omega
  refine lv_aload_n hx hb dW_1925 rfl (lv_at hl 1 rfl) ?_
  refine lw_arg (k := 1) hC hF hW.2.2.2.2 (by omega) (lv_sub hl [0, 4] rfl) (by decide) dW_1926 dW_1927 dW_1929 dW_1930 dW_1931 ?_
  refine lv_aload_n hx hb dW_1932 rfl (lv_at hl 3 rfl) ?_
  have hLB1 : LB (cells + 1) (slots + 6) (k + 1) (thr M (pT M (xs (4 * k + 1)))) := hLB.up (mc := 1) (ms := 6) rfl rfl (by omega) (by omega)
  have hcs := hLB1.room (INV_thr hI) (by omega)
  refine lw_wa (Rr := pckR M 37 (xs (4 * k + 1))) hF hW hCE hI (run_SH hC (lL_pickedIn l G d0 mi (lR s ma oa) ja M E oa v (xs (4 * k + 1)) k hI hCE hRo hl9) (As := [.ref (ja 8 0), .int (xs (4 * k + 1)), .ref oa]) (rest := []) rfl rfl ml_L_225 sm_L_pickedIn ini_L cw_L_pickedIn (show nArgs yL_pickedIn 3 from ⟨by decide, by decide, by decide +kernel⟩) lJ_blind (LW.pre hF hW) hl.1 (Nat.le_of_ble_eq_true rfl) ⟨Nat.le_of_ble_eq_true rfl, Nat.le_of_ble_eq_true rfl⟩ ⟨hcs.1, hcs.2⟩ rfl dW_1933) (fun E1 ja1 v1 H locs hW hv hCE1 hI1 => ?_)
  refine lv_istore (lv' := [(5, .int (pT M (xs (4 * k + 1)))), (0, .ref b), (1, .ref (ja 8 0)), (2, .ref (ma 0)), (3, .ref oa), (4, .int (nI (4 * k)))]) hx hb dW_1936 hl (by decide) rfl (fun ls hl => ?_)
  refine lv_aload_n hx hb dW_1938 rfl (lv_at hl 3 rfl) ?_
  refine lw_arg (k := 1) hC hF hW.2.2.2.2 (by omega) (lv_sub hl [1, 5] rfl) (by decide) dW_1939 dW_1940 dW_1942 dW_1943 dW_1944 ?_
  refine lw_ri (M' := thr M (pT M (xs (4 * k + 1)))) (Rr := pckR M 37 (xs (4 * k + 1))) hF hW (run_V hC (c9_pickedIn l G ma M none (xs (4 * k + 1)) hmI hI.p.1 (Nat.le_trans (Nat.le_add_right _ _) hI.p.2.1)) (As := [.int (xs (4 * k + 1))]) (rest := []) rfl rfl ml_L_227 im_X9_pickedIn se_X9_pickedIn ini_X9 cd_X9_pickedIn ⟨rfl, na_X9_pickedIn⟩ mB_blind (LW.rcv hF hW) (LW.prm hF hW) hl.1 (Nat.le_of_ble_eq_true rfl) ⟨Nat.le_of_ble_eq_true rfl, Nat.le_of_ble_eq_true rfl⟩ ⟨hcs.1, hcs.2⟩ rfl dW_1945) (fun H locs hW => ?_)
  refine lv_istore (lv' := [(6, .int (pckR M 37 (xs (4 * k + 1)))), (5, .int (pT M (xs (4 * k + 1)))), (0, .ref b), (1, .ref (ja 8 0)), (2, .ref (ma 0)), (3, .ref oa), (4, .int (nI (4 * k)))]) hx hb dW_1948 hl (by decide) rfl (fun ls hl => ?_)
  exact lw_tail hC hF hW rfl hv hl hcs dW_1950 dW_1951 dW_1954 dW_1956 dW_1961 dW_1963 dW_1966 dW_1967 dW_1968 dW_1969 dW_1971 dW_1972 dW_1973 dW_1978 (by decide) (kk _ E1 ja1 v1 H locs _ _ ls hW hI1 hCE1 hLB1 (lv_sub hl [2, 3, 4, 5, 6] rfl))
end LWC
