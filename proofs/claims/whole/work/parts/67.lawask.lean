/-! WRAPPERS THAT ASK -/
set_option maxHeartbeats 4000000 in
set_option maxRecDepth 100000 in
theorem lL_amount (l : Launch) (G : gG) (d0 mi : Nat) (Rf : Nat → Prop) (ja : Nat → Nat → Nat) (M : MS) (E : ES) (oa : Nat) (v : Int64) (x : Int32) (hRo : Rf oa) (hl9 : l.stackTraces = false) : Met l yL_amount (Cond.codeWith yL_amount cL_amount 4 (some .int) [(0, 9, 12, 36)] :: BIG) (rmL 8 1 6) (va_Pc [.ref (ja 8 0), .int x, .ref oa] (lJ G d0 mi Rf ja M E oa v)) (va_Qi (S := Int64) (fun r u => r = tT M x ∧ (tT M x = 0 → u = (amtR M x).toInt64)) (fun u t => WJ G d0 Rf ja M E t.heap ∧ oC G oa u t.heap) (lA Rf oa)) 1 6 (lA Rf oa) := by
  refine st_H (own := RL) (by decide +kernel) rfl (Nat.le_of_ble_eq_true rfl) ?_
  intro p e s m below meth c ls args Q hQ hC hr hlk htab hl hP
  obtain ⟨⟨⟨hW, hX, hRf⟩, hT9⟩, hO, hN⟩ := hP
  have hK := hX.1
  have hx := hC.1
  have hb := hC.2.1
  have hl : lv_has ls 4 [(0, .ref (ja 8 0)), (1, .int x), (2, .ref oa)] := hl
  have h16 := hW.cnt.T16
  refine lv_aload_n hx hb dL_amount_0 rfl (lv_at hl 2 rfl) ?_
  refine lv_iconst (v := 0) hx hb dL_amount_1 (by decide) ?_
  refine lv_aload_n hx hb dL_amount_2 rfl (lv_at hl 0 rfl) ?_
  refine lv_iload_n hx hb dL_amount_3 rfl (lv_at hl 1 rfl) ?_
  by_cases h : inB x (nI (nT M)) = true
  · have hT : tT M x = 0 := if_pos h
    obtain ⟨j, hj, rfl⟩ := inB_of (by omega) h
    refine cl_pi (x := M 9 j) (run_V hC (cJ_X8_amount l G d0 mi Rf ja M E j hj) (As := [.int (nI j)]) (rest := [.int 0, .ref oa]) rfl rfl ml_L_57 im_X8_amount se_X8_amount ini_X8 cd_X8_amount ⟨rfl, na_X8_amount⟩ jB_blind (hW.recv hK (show jV M 8 0 from rfl) rfl) (jB_at hX hRf hW va_S.rf) hl.1 (Nat.le_of_ble_eq_true rfl) ⟨Nat.le_of_ble_eq_true rfl, Nat.le_of_ble_eq_true rfl⟩ ⟨by show 0 + 0 ≤ 1; omega, by show 0 + 0 ≤ 6; omega⟩ rfl dL_amount_4) rfl ?_
    refine lv_i2l hx hb dL_amount_7 rfl ?_
    refine r2_lst hC hK (A := lA Rf oa) hO va_S.rf (Or.inr rfl) dL_amount_8 (fun H locs hO hz hoq hS => ?_)
    have hW := hW.kept (H1 := H) (fun q hq hnR => hoq q (fun e9 => hnR (by rw [e9]; exact hRo)))
    refine lv_goto (tgt := 15) hx hb dL_amount_9 (by decide) ?_
    refine lv_iconst (v := 0) hx hb dL_amount_15 (by decide) ?_
    subst hQ
    exact rt_qi ((M 9 j).toInt64) hx hb hr hlk hS ⟨hT.symm, fun _ => by unfold amtR; rw [if_pos hT, ix_nI (by omega)]⟩ (fun t9 ht9 _ => by show WJ G d0 Rf _ _ _ t9.heap ∧ oC G oa _ t9.heap; rw [ht9]; exact ⟨hW, hO⟩) (by show 0 ≤ 1; omega) (by show 0 ≤ 6; omega) dL_amount_16
  · have hT : tT M x = 1 := if_neg h
    have hno : inB x (nI (nT M)) = false := by simpa using h
    refine jl_catch (A0 := lA Rf oa) (run_VX hC (cJ_X8_amountX l G d0 mi Rf ja M E x hno hl9) (As := [.int x]) (rest := [.int 0, .ref oa]) rfl rfl ml_L_57 im_X8_amount se_X8_amount ini_X8 cd_X8_amount ⟨rfl, na_X8_amount⟩ jT_blind (hW.recv hK (show jV M 8 0 from rfl) rfl) (jT_at hX hT9 hRf hW va_S.rf) hl.1 (Nat.le_of_ble_eq_true rfl) ⟨Nat.le_of_ble_eq_true rfl, Nat.le_of_ble_eq_true rfl⟩ ⟨by show 0 + 1 ≤ 1; omega, by show 0 + 6 ≤ 6; omega⟩ rfl dL_amount_4) va_S.rf (fun q h => Or.inl h) hC.2.2.2.1 [] ⟨0, 9, 12, 36⟩ [] htab (fun z hz => nomatch hz) (by decide) (by decide) (hC.2.2.2.2 _ cl_L_36) (va_Nw.use rfl (hT9.2.1 (xIOE, xIOE) (by decide))) (fun q H locs hz hk hS => ?_)
    have hW := hW.kept (H1 := H) (fun q hq _ => hk q hq)
    have hO : oC G oa v H := va_at.kept hO (hk _ (va_at.lt hO))
    refine lv_astore_n (lv' := [(3, .ref q), (0, .ref (ja 8 0)), (1, .int x), (2, .ref oa)]) hx hb dL_amount_12 rfl hl (by decide) rfl (fun ls hl => ?_)
    refine lv_iconst (v := 1) hx hb dL_amount_13 (by decide) ?_
    subst hQ
    exact rt_qi v hx hb hr hlk hS ⟨hT.symm, fun z => by rw [hT] at z; exact absurd z (by decide)⟩ (fun t9 ht9 _ => by show WJ G d0 Rf _ _ _ t9.heap ∧ oC G oa _ t9.heap; rw [ht9]; exact ⟨hW, hO⟩) (by show 0 + 1 ≤ 1; omega) (by show 0 + 6 ≤ 6; omega) dL_amount_14
