/-! THE LAW'S LOOP -/
theorem law_gt {L i : Nat} (hL : L ≤ 2048) (hi : i ≤ L) : nI L - 4 < nI i ↔ ¬ i + 4 ≤ L := by
  have e : (nI L - 4).toInt = (L : Int) - 4 := by
    by_cases h : 4 ≤ L
    · obtain ⟨d, rfl⟩ : ∃ d, L = d + 4 := ⟨L - 4, by omega⟩
      have e1 : nI (d + 4) - 4 = nI d := by rw [← nI_add]; exact Int32.add_sub_cancel _ _
      rw [e1, nI_toInt (by omega)]
      omega
    · rcases (show L = 0 ∨ L = 1 ∨ L = 2 ∨ L = 3 by omega) with rfl | rfl | rfl | rfl <;> decide +kernel
  rw [Int32.lt_iff_toInt_lt, e, nI_toInt (by omega)]
  omega
theorem nx9_and (a b : Nat) : nI a &&& nI b = nI (a &&& b) := by
  apply Int32.toBitVec_inj.1
  show BitVec.ofNat 32 a &&& BitVec.ofNat 32 b = BitVec.ofNat 32 (a &&& b)
  apply BitVec.eq_of_getLsbD_eq
  intro i hi
  simp [hi]
theorem and63 (x : Int32) : ∃ j, j < 64 ∧ x &&& 63 = nI j := by
  obtain ⟨n, -, rfl⟩ := wb_of32 x
  refine ⟨n % 64, Nat.mod_lt _ (by omega), ?_⟩
  show nI n &&& nI 63 = _
  rw [nx9_and, show (63 : Nat) = 2 ^ 6 - 1 from rfl, Nat.and_two_pow_sub_one_eq_mod]
section LWL
variable {p : Program} {l : Launch} {e : Env} {s : State} {m : MethodId} {below : List Frame} {meth : Method} {c : Code} {H : Heap} {locs : List Loc} {cells slots : Nat} {Q : State → Prop}
variable {ls : Array Slot} {G : gG} {d0 mi : Nat} {ma : Nat → Nat} {oa x0 b L k : Nat} {xs : Nat → Int32} {M : MS} {E : ES} {ja : Nat → Nat → Nat} {v : Int64}
set_option maxHeartbeats 4000000 in
set_option maxRecDepth 100000 in
theorem law_sw (hC : CallFix p m c code 7 s #[Value.ref b] BIG RL) (hF : LF l s G d0 mi ma oa b L xs) (hi : 4 * k + 4 ≤ L) (hW : LW s G d0 ma oa x0 M M E ja v H locs) (hI : INV k M) (hCE : CE M E) (hLB : LB cells slots k M) (hl : lv_has ls 7 [(0, .ref b), (1, .ref x0), (2, .ref (ma 0)), (3, .ref oa), (4, .int (nI (4 * k)))])
    (kk : ∀ (M1 : MS) (E1 : ES) (ja1 : Nat → Nat → Nat) (v1 : Int64) (H1 : Heap) (locs1 : List Loc) (cells1 slots1 : Nat) (ls1 : Array Slot), LW s G d0 ma oa x0 M1 M1 E1 ja1 v1 H1 locs1 → INV (k + 1) M1 → CE M1 E1 → LB cells1 slots1 (k + 1) M1 → lv_has ls1 7 [(0, .ref b), (1, .ref x0), (2, .ref (ma 0)), (3, .ref oa), (4, .int (nI (4 * k)))] → W p l e room_1 s m #[Value.ref b] below meth c H1 locs1 cells1 slots1 Q (F0 m 1981 ls1 []))
    (x : Int32) : W p l e room_1 s m #[Value.ref b] below meth c H locs cells slots Q (F0 m 39 ls [.int (x &&& 63)]) := by
  have hx := hC.1
  have hb := hC.2.1
  obtain ⟨j, hj, ej⟩ := and63 x
  rw [ej]
  by_cases h0 : j = 0
  · rw [h0]
    refine lv_tableIn (off := 149) (tgt := 188) hx hb dW_39 (by decide +kernel) (by decide +kernel) (by decide +kernel) (by decide) ?_
    exact lc_wall hC hF hi hW hI hCE hLB hl kk
  by_cases h1 : j = 1
  · rw [h1]
    refine lv_tableIn (off := 185) (tgt := 224) hx hb dW_39 (by decide +kernel) (by decide +kernel) (by decide +kernel) (by decide) ?_
    exact lc_setClosed hC hF hi hW hI hCE hLB hl kk
  by_cases h2 : j = 2
  · rw [h2]
    refine lv_tableIn (off := 276) (tgt := 315) hx hb dW_39 (by decide +kernel) (by decide +kernel) (by decide +kernel) (by decide) ?_
    exact lc_distance hC hF hi hW hI hCE hLB hl kk
  by_cases h3 : j = 3
  · rw [h3]
    refine lv_tableIn (off := 344) (tgt := 383) hx hb dW_39 (by decide +kernel) (by decide +kernel) (by decide +kernel) (by decide) ?_
    exact lc_addStation hC hF hi hW hI hCE hLB hl kk
  by_cases h4 : j = 4
  · rw [h4]
    refine lv_tableIn (off := 400) (tgt := 439) hx hb dW_39 (by decide +kernel) (by decide +kernel) (by decide +kernel) (by decide) ?_
    exact lc_addTray hC hF hi hW hI hCE hLB hl kk
  by_cases h5 : j = 5
  · rw [h5]
    refine lv_tableIn (off := 480) (tgt := 519) hx hb dW_39 (by decide +kernel) (by decide +kernel) (by decide +kernel) (by decide) ?_
    exact lc_fill hC hF hi hW hI hCE hLB hl kk
  by_cases h6 : j = 6
  · rw [h6]
    refine lv_tableIn (off := 548) (tgt := 587) hx hb dW_39 (by decide +kernel) (by decide +kernel) (by decide +kernel) (by decide) ?_
    exact lc_addOrder hC hF hi hW hI hCE hLB hl kk
  by_cases h7 : j = 7
  · rw [h7]
    refine lv_tableIn (off := 592) (tgt := 631) hx hb dW_39 (by decide +kernel) (by decide +kernel) (by decide +kernel) (by decide) ?_
    exact lc_addLine hC hF hi hW hI hCE hLB hl kk
  by_cases h8 : j = 8
  · rw [h8]
    refine lv_tableIn (off := 672) (tgt := 711) hx hb dW_39 (by decide +kernel) (by decide +kernel) (by decide +kernel) (by decide) ?_
    exact lc_claim hC hF hi hW hI hCE hLB hl kk
  by_cases h9 : j = 9
  · rw [h9]
    refine lv_tableIn (off := 752) (tgt := 791) hx hb dW_39 (by decide +kernel) (by decide +kernel) (by decide +kernel) (by decide) ?_
    exact lc_giveUp hC hF hi hW hI hCE hLB hl kk
  by_cases h10 : j = 10
  · rw [h10]
    refine lv_tableIn (off := 820) (tgt := 859) hx hb dW_39 (by decide +kernel) (by decide +kernel) (by decide +kernel) (by decide) ?_
    exact lc_left hC hF hi hW hI hCE hLB hl kk
  by_cases h11 : j = 11
  · rw [h11]
    refine lv_tableIn (off := 888) (tgt := 927) hx hb dW_39 (by decide +kernel) (by decide +kernel) (by decide +kernel) (by decide) ?_
    exact lc_claimant hC hF hi hW hI hCE hLB hl kk
  by_cases h12 : j = 12
  · rw [h12]
    refine lv_tableIn (off := 956) (tgt := 995) hx hb dW_39 (by decide +kernel) (by decide +kernel) (by decide +kernel) (by decide) ?_
    exact lc_amount hC hF hi hW hI hCE hLB hl kk
  by_cases h13 : j = 13
  · rw [h13]
    refine lv_tableIn (off := 1012) (tgt := 1051) hx hb dW_39 (by decide +kernel) (by decide +kernel) (by decide +kernel) (by decide) ?_
    exact lc_trayCell hC hF hi hW hI hCE hLB hl kk
  by_cases h14 : j = 14
  · rw [h14]
    refine lv_tableIn (off := 1068) (tgt := 1107) hx hb dW_39 (by decide +kernel) (by decide +kernel) (by decide +kernel) (by decide) ?_
    exact lc_addRobot hC hF hi hW hI hCE hLB hl kk
  by_cases h15 : j = 15
  · rw [h15]
    refine lv_tableIn (off := 1136) (tgt := 1175) hx hb dW_39 (by decide +kernel) (by decide +kernel) (by decide +kernel) (by decide) ?_
    exact lc_die hC hF hi hW hI hCE hLB hl kk
  by_cases h16 : j = 16
  · rw [h16]
    refine lv_tableIn (off := 1192) (tgt := 1231) hx hb dW_39 (by decide +kernel) (by decide +kernel) (by decide +kernel) (by decide) ?_
    exact lc_repair hC hF hi hW hI hCE hLB hl kk
  by_cases h17 : j = 17
  · rw [h17]
    refine lv_tableIn (off := 1248) (tgt := 1287) hx hb dW_39 (by decide +kernel) (by decide +kernel) (by decide +kernel) (by decide) ?_
    exact lc_robotIn hC hF hi hW hI hCE hLB hl kk
  by_cases h18 : j = 18
  · rw [h18]
    refine lv_tableIn (off := 1304) (tgt := 1343) hx hb dW_39 (by decide +kernel) (by decide +kernel) (by decide +kernel) (by decide) ?_
    exact lc_cellOf hC hF hi hW hI hCE hLB hl kk
  by_cases h19 : j = 19
  · rw [h19]
    refine lv_tableIn (off := 1360) (tgt := 1399) hx hb dW_39 (by decide +kernel) (by decide +kernel) (by decide +kernel) (by decide) ?_
    exact lc_state hC hF hi hW hI hCE hLB hl kk
  by_cases h20 : j = 20
  · rw [h20]
    refine lv_tableIn (off := 1416) (tgt := 1455) hx hb dW_39 (by decide +kernel) (by decide +kernel) (by decide +kernel) (by decide) ?_
    exact lc_trayOf hC hF hi hW hI hCE hLB hl kk
  by_cases h21 : j = 21
  · rw [h21]
    refine lv_tableIn (off := 1472) (tgt := 1511) hx hb dW_39 (by decide +kernel) (by decide +kernel) (by decide +kernel) (by decide) ?_
    exact lc_asked hC hF hi hW hI hCE hLB hl kk
  by_cases h22 : j = 22
  · rw [h22]
    refine lv_tableIn (off := 1528) (tgt := 1567) hx hb dW_39 (by decide +kernel) (by decide +kernel) (by decide +kernel) (by decide) ?_
    exact lc_tick hC hF hi hW hI hCE hLB hl kk
  by_cases h23 : j = 23
  · rw [h23]
    refine lv_tableIn (off := 1584) (tgt := 1623) hx hb dW_39 (by decide +kernel) (by decide +kernel) (by decide +kernel) (by decide) ?_
    exact lc_time hC hF hi hW hI hCE hLB hl kk
  by_cases h24 : j = 24
  · rw [h24]
    refine lv_tableIn (off := 1597) (tgt := 1636) hx hb dW_39 (by decide +kernel) (by decide +kernel) (by decide +kernel) (by decide) ?_
    exact lc_steps hC hF hi hW hI hCE hLB hl kk
  by_cases h25 : j = 25
  · rw [h25]
    refine lv_tableIn (off := 1610) (tgt := 1649) hx hb dW_39 (by decide +kernel) (by decide +kernel) (by decide +kernel) (by decide) ?_
    exact lc_rings hC hF hi hW hI hCE hLB hl kk
  by_cases h26 : j = 26
  · rw [h26]
    refine lv_tableIn (off := 1623) (tgt := 1662) hx hb dW_39 (by decide +kernel) (by decide +kernel) (by decide +kernel) (by decide) ?_
    exact lc_yields hC hF hi hW hI hCE hLB hl kk
  by_cases h27 : j = 27
  · rw [h27]
    refine lv_tableIn (off := 1636) (tgt := 1675) hx hb dW_39 (by decide +kernel) (by decide +kernel) (by decide +kernel) (by decide) ?_
    exact lc_knots hC hF hi hW hI hCE hLB hl kk
  by_cases h28 : j = 28
  · rw [h28]
    refine lv_tableIn (off := 1649) (tgt := 1688) hx hb dW_39 (by decide +kernel) (by decide +kernel) (by decide +kernel) (by decide) ?_
    exact lc_stock hC hF hi hW hI hCE hLB hl kk
  by_cases h29 : j = 29
  · rw [h29]
    refine lv_tableIn (off := 1705) (tgt := 1744) hx hb dW_39 (by decide +kernel) (by decide +kernel) (by decide +kernel) (by decide) ?_
    exact lc_stockByPicks hC hF hi hW hI hCE hLB hl kk
  by_cases h30 : j = 30
  · rw [h30]
    refine lv_tableIn (off := 1761) (tgt := 1800) hx hb dW_39 (by decide +kernel) (by decide +kernel) (by decide +kernel) (by decide) ?_
    exact lc_picks hC hF hi hW hI hCE hLB hl kk
  by_cases h31 : j = 31
  · rw [h31]
    refine lv_tableIn (off := 1774) (tgt := 1813) hx hb dW_39 (by decide +kernel) (by decide +kernel) (by decide +kernel) (by decide) ?_
    exact lc_pickedFrom hC hF hi hW hI hCE hLB hl kk
  by_cases h32 : j = 32
  · rw [h32]
    refine lv_tableIn (off := 1830) (tgt := 1869) hx hb dW_39 (by decide +kernel) (by decide +kernel) (by decide +kernel) (by decide) ?_
    exact lc_pickedFor hC hF hi hW hI hCE hLB hl kk
  by_cases h33 : j = 33
  · rw [h33]
    refine lv_tableIn (off := 1886) (tgt := 1925) hx hb dW_39 (by decide +kernel) (by decide +kernel) (by decide +kernel) (by decide) ?_
    exact lc_pickedIn hC hF hi hW hI hCE hLB hl kk
  refine lv_tableOut (tgt := 1981) hx hb dW_39 (Or.inr (by rw [nI_toInt (by omega)]; omega)) (by decide) ?_
  exact kk M E ja v H locs cells slots ls hW (hI.Bm (by omega)) hCE (hLB.up (mc := 0) (ms := 0) rfl rfl (by omega) (by omega)) hl
end LWL
set_option maxHeartbeats 4000000 in
set_option maxRecDepth 100000 in
theorem law_loop {p : Program} {l : Launch} {e : Env} {s : State} {m : MethodId} {below : List Frame} {meth : Method} {c : Code} {G : gG} {d0 mi : Nat} {ma : Nat → Nat} {oa x0 b L : Nat} {xs : Nat → Int32} (C0 : lw_At p s m meth c b L xs) (hC : CallFix p m c code 7 s #[Value.ref b] BIG RL) (hF : LF l s G d0 mi ma oa b L xs) :
    ∀ (n k : Nat) (M : MS) (E : ES) (ja : Nat → Nat → Nat) (v : Int64) (H : Heap) (locs : List Loc) (cells slots : Nat) (ls : Array Slot), 4 * k ≤ L → L < 4 * (k + n) → LW s G d0 ma oa x0 M M E ja v H locs → INV k M → CE M E → LB cells slots k M → lv_has ls 7 [(0, .ref b), (1, .ref x0), (2, .ref (ma 0)), (3, .ref oa), (4, .int (nI (4 * k)))] → W p l e room_1 s m #[Value.ref b] below meth c H locs cells slots (lw_Z below #[Value.ref b] s) (F0 m 23 ls []) := by
  obtain ⟨hx, hb, hr, hml, hown, hts, hX, hbl, hlocks, hgv⟩ := C0
  have hL := hF.2.2.2.2.2.1
  intro n
  induction n with
  | zero => intro k M E ja v H locs cells slots ls h1 h2; exact absurd h2 (by omega)
  | succ n ih =>
    intro k M E ja v H locs cells slots ls h1 h2 hW hI hCE hLB hl
    have hS := hW.2.2.2.2
    refine lv_iload hx hb dW_23 (lv_at hl 4 rfl) ?_
    refine lv_aload_n hx hb dW_25 rfl (lv_at hl 0 rfl) ?_
    refine va_slen hx hb hX hbl (Nat.not_le.mpr hbl) hS dW_26 ?_
    refine top_i (y := nI L) rfl ?_
    refine lv_iconst (v := 4) hx hb dW_27 (by decide) ?_
    refine lv_isub hx hb dW_28 ?_
    refine lv_icmp_gt (tgt := 1987) hx hb dW_29 (by decide) (fun hc => ?_) (fun hc => ?_)
    · have hroom := hLB.room hI (by omega)
      refine lv_iconst (v := 1) hx hb dW_1987 (by decide) ?_
      refine va_forget (fun q hq => hS.2.2 q hq) ?_
      refine W.widen (k := 601024) (n := 7293034) hroom.1 hroom.2 ?_
      exact lw_ret hx hb hr hlocks dW_1988
    · have hi : 4 * k + 4 ≤ L := Classical.byContradiction (fun z => hc ((law_gt hL h1).mpr z))
      refine lv_aload_n hx hb dW_32 rfl (lv_at hl 0 rfl) ?_
      refine lv_iload hx hb dW_33 (lv_at hl 4 rfl) ?_
      refine va_sld hx hb hX hbl (Nat.not_le.mpr hbl) hS (vp_in_nI (by omega) (by omega)) dW_35 ?_
      refine lv_bipush (v := 63) hx hb dW_36 (by decide) ?_
      refine lv_iand hx hb dW_38 ?_
      refine law_sw hC hF hi hW hI hCE hLB hl (fun M1 E1 ja1 v1 H1 locs1 cells1 slots1 ls1 hW1 hI1 hCE1 hLB1 hl1 => ?_) _
      refine lv_iinc (v := nI (4 * (k + 1))) (lv' := [(4, .int (nI (4 * (k + 1)))), (0, .ref b), (1, .ref x0), (2, .ref (ma 0)), (3, .ref oa)]) hx hb dW_1981 hl1 (k := 4) rfl (by rw [show Int32.ofInt 4 = nI 4 from by decide, nI_add]; exact congrArg nI (by omega)) (by decide) rfl (fun ls hl => ?_)
      refine lv_goto (tgt := 23) hx hb dW_1984 (by decide) ?_
      exact ih (k + 1) M1 E1 ja1 v1 H1 locs1 cells1 slots1 ls (by omega) (by omega) hW1 hI1 hCE1 hLB1 (lv_sub hl [1, 2, 3, 4, 0] rfl)
