/-! THE LAST THREE WRAPPERS -/
set_option maxHeartbeats 4000000 in
set_option maxRecDepth 100000 in
theorem lL_tick (l : Launch) (G : gG) (d0 mi : Nat) (Rf : Nat → Prop) (ja : Nat → Nat → Nat) (M : MS) (E : ES) (oa : Nat) (v : Int64) (x : Int32) (B : Nat) (hI : INV B M) (hCE : CE M E) (hB : B < 100000) (hRo : Rf oa) (hl9 : l.stackTraces = false) (mc ms : Nat) (hm1 : 1 ≤ mc) (hm2 : 6 ≤ ms) (hm3 : tkT M x = 0 → 2 * ix x + 2 * (nP (tkF M x) - nP M) ≤ mc) (hm4 : tkT M x = 0 → 20 * ix x + (gS (nP (tkF M x)) - gS (nP M)) ≤ ms) : Met l yL_tick (Cond.codeWith yL_tick cL_tick 4 (some .int) [(0, 9, 12, 13), (0, 9, 15, 15)] :: BIG) (rmL 12 mc ms) (va_Pc [.ref (ja 8 0), .int x, .ref oa] (lJ G d0 mi Rf ja M E oa v)) (wQ G d0 Rf ja B oa (tkT M x) (tkR M x) (tkF M x)) mc ms (lA Rf oa) := by
  refine st_H (own := RL) (by decide +kernel) rfl (Nat.le_of_ble_eq_true rfl) ?_
  intro p e s m below meth c ls args Q hQ hC hr hlk htab hl hP
  obtain ⟨⟨⟨hW, hX, hRf⟩, hT9⟩, hO, hN⟩ := hP
  have hK := hX.1
  have hx := hC.1
  have hb := hC.2.1
  have hl : lv_has ls 4 [(0, .ref (ja 8 0)), (1, .int x), (2, .ref oa)] := hl
  have h16 := hW.cnt.T16
  have h6 := hW.cnt.R6
  have h10 := hW.cnt.O10
  have h3 := hW.cnt.S3
  refine lv_aload_n hx hb dL_tick_0 rfl (lv_at hl 2 rfl) ?_
  refine lv_iconst (v := 0) hx hb dL_tick_1 (by decide) ?_
  refine lv_aload_n hx hb dL_tick_2 rfl (lv_at hl 0 rfl) ?_
  refine lv_iload_n hx hb dL_tick_3 rfl (lv_at hl 1 rfl) ?_
  have htM := hI.f.2.2.2.2.2.2.2.1
  have htM9 := hI.f.2.2.2.2.2.2.2.2
  by_cases ha : ¬ x < 1 ∧ x ≤ 50
  · obtain ⟨n0, hn0, hn1, rfl⟩ : ∃ a, 0 < a ∧ a ≤ 50 ∧ x = nI a := rg_nat (by decide) ha.1 ha.2
    have en : ix (nI n0) = n0 := ix_nI (by omega)
    have hA : ¬ (nI n0 < 1 ∨ ¬ nI n0 ≤ 50) := fun z => z.elim ha.1 (fun w => w ha.2)
    have hle : M 1 0 + nI n0 ≤ 3000 ↔ tN M + n0 ≤ 3000 := by rw [htM, nI_add]; exact nI_leI (a := tN M + n0) (b := 3000) (by omega) (by decide)
    by_cases hc : tN M + n0 ≤ 3000
    · have hT : tkT M (nI n0) = 0 := by unfold tkT; rw [if_neg hA, if_neg (fun w => w (hle.mpr hc))]
      have e9 : tkF M (nI n0) = itP n0 (thr M 0) := by unfold tkF; rw [if_pos hT, en]
      have hI0 : INV B (thr M 0) := INV_thr hI
      have hI9 : INV B (itP n0 (thr M 0)) := (itP_inv hI0 n0 hc).1
      have hm3 := hm3 hT
      have hm4 := hm4 hT
      rw [en, e9] at hm3 hm4
      have hW : WJ G d0 Rf ja (thr M 0) E s.heap := hW.gh thr_lk
      refine va_calli (run_V hC (cJ_X8_tick l G d0 mi Rf ja (thr M 0) E n0 B hI0 (hCE.set rfl) (by omega) hn0 hn1 hc) (As := [.int (nI n0)]) (rest := [.int 0, .ref oa]) rfl rfl ml_L_87 im_X8_tick se_X8_tick ini_X8 cd_X8_tick ⟨rfl, na_X8_tick⟩ jB_blind (hW.recv hK (show jV (thr M 0) 8 0 from rfl) rfl) (jB_at hX hRf hW va_S.rf) hl.1 (Nat.le_of_ble_eq_true rfl) ⟨Nat.le_of_ble_eq_true rfl, Nat.le_of_ble_eq_true rfl⟩ ⟨by show 0 + (2 * n0 + 2 * (nP (itP n0 (thr M 0)) - nP (thr M 0))) ≤ mc; rw [Nat.zero_add]; exact hm3, by show 0 + (20 * n0 + (gS (nP (itP n0 (thr M 0))) - gS (nP (thr M 0)))) ≤ ms; rw [Nat.zero_add]; exact hm4⟩ rfl dL_tick_4) va_S.rf (fun _ _ h => h) (fun _ h => h) (fun r u t H1 locs1 ht _ hp hB hz1 _ hS => ?_)
      rw [ht] at hB
      have hO : oC G oa v H1 := va_at.kept hO (hS.2.1 _ (va_at.lt hO) (fun z => z hRo))
      obtain ⟨ja9, E9⟩ := u
      obtain ⟨hp1, hp2, hp3⟩ := hp
      dsimp only at hp2 hp3 hB
      have hW : WJ G d0 Rf ja9 (tkF M (nI n0)) E9 H1 := by rw [e9]; exact hB
      refine lv_i2l hx hb dL_tick_7 rfl ?_
      refine r2_lst hC hK (A := lA Rf oa) hO (S_lA hS) (Or.inr rfl) dL_tick_8 (fun H locs hO hz hoq hS => ?_)
      have hW := hW.kept (H1 := H) (fun q hq hnR => hoq q (fun e9 => hnR (by rw [e9]; exact hRo)))
      refine lv_goto (tgt := 18) hx hb dL_tick_9 (by decide) ?_
      refine lv_iconst (v := 0) hx hb dL_tick_18 (by decide) ?_
      subst hQ
      exact rt_qi (((ja9, E9), r.toInt64) : JE × Int64) hx hb hr hlk hS ⟨hT.symm, fun _ => congrArg Int32.toInt64 (hp1.trans (by unfold tkR; rw [if_pos hT, e9]; show nI (nP (itP n0 (thr M 0))) - nI (nP M) = _ - _; rw [← hI9.p.1, ← hI.p.1])), hp2 8 0 (by decide), by rw [e9]; exact hp3, by rw [e9]; exact hI9.Bm (by omega)⟩ (fun t9 ht9 _ => by show WJ G d0 Rf _ _ _ t9.heap ∧ oC G oa _ t9.heap; rw [ht9]; exact ⟨hW, hO⟩) (by show 0 + (2 * n0 + 2 * (nP (itP n0 (thr M 0)) - nP (thr M 0))) ≤ mc; rw [Nat.zero_add]; exact hm3) (by show 0 + (20 * n0 + (gS (nP (itP n0 (thr M 0))) - gS (nP (thr M 0)))) ≤ ms; rw [Nat.zero_add]; exact hm4) dL_tick_19
    · have hT : tkT M (nI n0) = 2 := by unfold tkT; rw [if_neg hA, if_pos (fun w => hc (hle.mp w))]
      refine jl_catch (A0 := lA Rf oa) (run_VX hC (cJ_X8_tickX2 l G d0 mi Rf ja M E n0 B hI hn0 hn1 hc hl9) (As := [.int (nI n0)]) (rest := [.int 0, .ref oa]) rfl rfl ml_L_87 im_X8_tick se_X8_tick ini_X8 cd_X8_tick ⟨rfl, na_X8_tick⟩ jT_blind (hW.recv hK (show jV M 8 0 from rfl) rfl) (jT_at hX hT9 hRf hW va_S.rf) hl.1 (Nat.le_of_ble_eq_true rfl) ⟨Nat.le_of_ble_eq_true rfl, Nat.le_of_ble_eq_true rfl⟩ ⟨by show 0 + 1 ≤ mc; omega, by show 0 + 6 ≤ ms; omega⟩ rfl dL_tick_4) va_S.rf (fun q h => Or.inl h) hC.2.2.2.1 [⟨0, 9, 12, 13⟩] ⟨0, 9, 15, 15⟩ [] htab (fun z hz => by simp only [List.mem_cons, List.not_mem_nil, or_false] at hz; rcases hz with rfl; all_goals first | exact Or.inr ⟨by decide, _, hC.2.2.2.2 _ cl_L_13, hN.1⟩) (by decide) (by decide) (hC.2.2.2.2 _ cl_L_15) (va_Nw.use rfl (hT9.2.1 (xISE, xISE) (by decide))) (fun q H locs hz hk hS => ?_)
      have hW := hW.kept (H1 := H) (fun q hq _ => hk q hq)
      have hO : oC G oa v H := va_at.kept hO (hk _ (va_at.lt hO))
      have hF : tkF M (nI n0) = thr M 2 := by unfold tkF; rw [if_neg (by rw [hT]; decide), hT]
      refine lv_astore_n (lv' := [(3, .ref q), (0, .ref (ja 8 0)), (1, .int (nI n0)), (2, .ref oa)]) hx hb dL_tick_15 rfl hl (by decide) rfl (fun ls hl => ?_)
      refine lv_iconst (v := 2) hx hb dL_tick_16 (by decide) ?_
      subst hQ
      refine rt_qi (((ja, E), v) : JE × Int64) hx hb hr hlk hS ⟨hT.symm, fun z => by rw [hT] at z; exact absurd z (by decide), rfl, by rw [hF]; exact hCE.set rfl, by rw [hF]; exact (hI.set rfl).Bm (by omega)⟩ (fun t9 ht9 _ => ?_) (by show 0 + 1 ≤ mc; omega) (by show 0 + 6 ≤ ms; omega) dL_tick_17
      show WJ G d0 Rf _ _ _ t9.heap ∧ oC G oa _ t9.heap
      rw [ht9, hF]
      exact ⟨hW.gh thr_lk, hO⟩
  · have hA : x < 1 ∨ ¬ x ≤ 50 := Classical.byContradiction (fun z => ha ⟨fun w => z (Or.inl w), Classical.byContradiction (fun w => z (Or.inr w))⟩)
    have hT : tkT M x = 1 := by unfold tkT; rw [if_pos hA]
    refine jl_catch (A0 := lA Rf oa) (run_VX hC (cJ_X8_tickX1 l G d0 mi Rf ja M E x ha hl9) (As := [.int x]) (rest := [.int 0, .ref oa]) rfl rfl ml_L_87 im_X8_tick se_X8_tick ini_X8 cd_X8_tick ⟨rfl, na_X8_tick⟩ jT_blind (hW.recv hK (show jV M 8 0 from rfl) rfl) (jT_at hX hT9 hRf hW va_S.rf) hl.1 (Nat.le_of_ble_eq_true rfl) ⟨Nat.le_of_ble_eq_true rfl, Nat.le_of_ble_eq_true rfl⟩ ⟨by show 0 + 1 ≤ mc; omega, by show 0 + 6 ≤ ms; omega⟩ rfl dL_tick_4) va_S.rf (fun q h => Or.inl h) hC.2.2.2.1 [] ⟨0, 9, 12, 13⟩ [⟨0, 9, 15, 15⟩] htab (fun z hz => nomatch hz) (by decide) (by decide) (hC.2.2.2.2 _ cl_L_13) (va_Nw.use rfl (hT9.2.1 (xIAE, xIAE) (by decide))) (fun q H locs hz hk hS => ?_)
    have hW := hW.kept (H1 := H) (fun q hq _ => hk q hq)
    have hO : oC G oa v H := va_at.kept hO (hk _ (va_at.lt hO))
    have hF : tkF M x = thr M 1 := by unfold tkF; rw [if_neg (by rw [hT]; decide), hT]
    refine lv_astore_n (lv' := [(3, .ref q), (0, .ref (ja 8 0)), (1, .int x), (2, .ref oa)]) hx hb dL_tick_12 rfl hl (by decide) rfl (fun ls hl => ?_)
    refine lv_iconst (v := 1) hx hb dL_tick_13 (by decide) ?_
    subst hQ
    refine rt_qi (((ja, E), v) : JE × Int64) hx hb hr hlk hS ⟨hT.symm, fun z => by rw [hT] at z; exact absurd z (by decide), rfl, by rw [hF]; exact hCE.set rfl, by rw [hF]; exact (hI.set rfl).Bm (by omega)⟩ (fun t9 ht9 _ => ?_) (by show 0 + 1 ≤ mc; omega) (by show 0 + 6 ≤ ms; omega) dL_tick_14
    show WJ G d0 Rf _ _ _ t9.heap ∧ oC G oa _ t9.heap
    rw [ht9, hF]
    exact ⟨hW.gh thr_lk, hO⟩
/-- what wall's wrapper leaves -/
def wQw (G : gG) (d0 : Nat) (Rf : Nat → Prop) (ja : Nat → Nat → Nat) (B : Nat) (oa : Nat) (T : Int32) (M' : MS) (v : Int64) : Array Value → State → Outcome → State → Prop :=
  va_Qi (S := JE) (fun r u => r = T ∧ u.1 8 0 = ja 8 0 ∧ CE M' u.2 ∧ INV (B + 1) M') (fun u t => WJ G d0 Rf u.1 M' u.2 t.heap ∧ oC G oa v t.heap) (lA Rf oa)
set_option maxHeartbeats 4000000 in
set_option maxRecDepth 100000 in
theorem lL_wall (l : Launch) (G : gG) (d0 mi : Nat) (Rf : Nat → Prop) (ja : Nat → Nat → Nat) (M : MS) (E : ES) (oa : Nat) (v : Int64) (x : Int32) (B : Nat) (hI : INV B M) (hCE : CE M E) (hB : B < 100000) (hRo : Rf oa) (hl9 : l.stackTraces = false) : Met l yL_wall (Cond.codeWith yL_wall cL_wall 3 (some .int) [(0, 5, 8, 13), (0, 5, 11, 15)] :: BIG) (rmL 12 1 6) (va_Pc [.ref (ja 8 0), .int x] (lJ G d0 mi Rf ja M E oa v)) (wQw G d0 Rf ja B oa (wallT M x) (wallF M x) v) 1 6 (lA Rf oa) := by
  refine st_H (own := RL) (by decide +kernel) rfl (Nat.le_of_ble_eq_true rfl) ?_
  intro p e s m below meth c ls args Q hQ hC hr hlk htab hl hP
  obtain ⟨⟨⟨hW, hX, hRf⟩, hT9⟩, hO, hN⟩ := hP
  have hK := hX.1
  have hx := hC.1
  have hb := hC.2.1
  have hl : lv_has ls 3 [(0, .ref (ja 8 0)), (1, .int x)] := hl
  refine lv_aload_n hx hb dL_wall_0 rfl (lv_at hl 0 rfl) ?_
  refine lv_iload_n hx hb dL_wall_1 rfl (lv_at hl 1 rfl) ?_
  by_cases h : inB x 64 = true
  · obtain ⟨j, hj, rfl⟩ := inB_of (n := 64) (by omega) h
    have ej : ix (nI j) = j := ix_nI (by omega)
    by_cases hc : M 2 j = 0 ∧ hmA M (nI j) = none ∧ stA M (nI j) = none ∧ rbA M (nI j) = none
    · have hT : wallT M (nI j) = 0 := by unfold wallT; rw [if_pos h, ej, if_pos hc]
      have hlk9 : ∀ k, gh k = false → wallF M (nI j) k = mset M 2 j 1 k := fun k hk => by
        have h0 : k ≠ 0 := gh_ne hk rfl
        unfold wallF; rw [if_pos hT, ej]
        by_cases a : k = 2
        · subst a; rfl
        · simp only [mset, thr, if_neg h0, if_neg a]
      refine va_callv (run_V hC (cJ_X8_wall l G d0 mi Rf ja M E j hj hI.u18 hc.1 hc.2.1 hc.2.2.1 hc.2.2.2) (As := [.int (nI j)]) (rest := []) rfl rfl ml_L_7 im_X8_wall se_X8_wall ini_X8 cd_X8_wall ⟨rfl, na_X8_wall⟩ jB_blind (hW.recv hK (show jV M 8 0 from rfl) rfl) (jB_at hX hRf hW va_S.rf) hl.1 (Nat.le_of_ble_eq_true rfl) ⟨Nat.le_of_ble_eq_true rfl, Nat.le_of_ble_eq_true rfl⟩ ⟨by show 0 + 0 ≤ 1; omega, by show 0 + 0 ≤ 6; omega⟩ rfl dL_wall_2) va_S.rf (fun _ _ h => h) (fun _ h => h) (fun u t H1 locs1 ht _ _ hB hz1 _ hS => ?_)
      rw [ht] at hB
      have hO : oC G oa v H1 := va_at.kept hO (hS.2.1 _ (va_at.lt hO) (fun z => z hRo))
      have hW := WJ.gh (M' := wallF M (nI j)) hB hlk9
      refine lv_goto (tgt := 14) hx hb dL_wall_5 (by decide) ?_
      refine lv_iconst (v := 0) hx hb dL_wall_14 (by decide) ?_
      subst hQ
      exact rt_qi ((ja, E) : JE) hx hb hr hlk (S_lA hS) ⟨hT.symm, rfl, CE_wall hCE, (INV_wall hI).Bm (by omega)⟩ (fun t9 ht9 _ => by show WJ G d0 Rf _ _ _ t9.heap ∧ oC G oa _ t9.heap; rw [ht9]; exact ⟨hW, hO⟩) (by show 0 + 0 ≤ 1; omega) (by show 0 + 0 ≤ 6; omega) dL_wall_15
    · have hT : wallT M (nI j) = 2 := by unfold wallT; rw [if_pos h, ej, if_neg hc]
      refine jl_catch (A0 := lA Rf oa) (run_VX hC (cJ_X8_wallX2 l G d0 mi Rf ja M E j hj hI.u18 hc hl9) (As := [.int (nI j)]) (rest := []) rfl rfl ml_L_7 im_X8_wall se_X8_wall ini_X8 cd_X8_wall ⟨rfl, na_X8_wall⟩ jT_blind (hW.recv hK (show jV M 8 0 from rfl) rfl) (jT_at hX hT9 hRf hW va_S.rf) hl.1 (Nat.le_of_ble_eq_true rfl) ⟨Nat.le_of_ble_eq_true rfl, Nat.le_of_ble_eq_true rfl⟩ ⟨by show 0 + 1 ≤ 1; omega, by show 0 + 6 ≤ 6; omega⟩ rfl dL_wall_2) va_S.rf (fun q h => Or.inl h) hC.2.2.2.1 [⟨0, 5, 8, 13⟩] ⟨0, 5, 11, 15⟩ [] htab (fun z hz => by simp only [List.mem_cons, List.not_mem_nil, or_false] at hz; rcases hz with rfl; all_goals first | exact Or.inr ⟨by decide, _, hC.2.2.2.2 _ cl_L_13, hN.1⟩) (by decide) (by decide) (hC.2.2.2.2 _ cl_L_15) (va_Nw.use rfl (hT9.2.1 (xISE, xISE) (by decide))) (fun q H locs hz hk hS => ?_)
      have hW := hW.kept (H1 := H) (fun q hq _ => hk q hq)
      have hO : oC G oa v H := va_at.kept hO (hk _ (va_at.lt hO))
      have hF : wallF M (nI j) = thr M 2 := by unfold wallF; rw [if_neg (by rw [hT]; decide), hT]
      refine lv_astore_n (lv' := [(2, .ref q), (0, .ref (ja 8 0)), (1, .int (nI j))]) hx hb dL_wall_11 rfl hl (by decide) rfl (fun ls hl => ?_)
      refine lv_iconst (v := 2) hx hb dL_wall_12 (by decide) ?_
      subst hQ
      refine rt_qi ((ja, E) : JE) hx hb hr hlk hS ⟨hT.symm, rfl, by rw [hF]; exact hCE.set rfl, by rw [hF]; exact (hI.set rfl).Bm (by omega)⟩ (fun t9 ht9 _ => ?_) (by show 0 + 1 ≤ 1; omega) (by show 0 + 6 ≤ 6; omega) dL_wall_13
      show WJ G d0 Rf _ _ _ t9.heap ∧ oC G oa _ t9.heap
      rw [ht9, hF]
      exact ⟨hW.gh thr_lk, hO⟩
  · have hT : wallT M x = 1 := by unfold wallT; rw [if_neg h]
    have hno : inB x 64 = false := by simpa using h
    refine jl_catch (A0 := lA Rf oa) (run_VX hC (cJ_X8_wallX1 l G d0 mi Rf ja M E x hno hl9) (As := [.int x]) (rest := []) rfl rfl ml_L_7 im_X8_wall se_X8_wall ini_X8 cd_X8_wall ⟨rfl, na_X8_wall⟩ jT_blind (hW.recv hK (show jV M 8 0 from rfl) rfl) (jT_at hX hT9 hRf hW va_S.rf) hl.1 (Nat.le_of_ble_eq_true rfl) ⟨Nat.le_of_ble_eq_true rfl, Nat.le_of_ble_eq_true rfl⟩ ⟨by show 0 + 1 ≤ 1; omega, by show 0 + 6 ≤ 6; omega⟩ rfl dL_wall_2) va_S.rf (fun q h => Or.inl h) hC.2.2.2.1 [] ⟨0, 5, 8, 13⟩ [⟨0, 5, 11, 15⟩] htab (fun z hz => nomatch hz) (by decide) (by decide) (hC.2.2.2.2 _ cl_L_13) (va_Nw.use rfl (hT9.2.1 (xIAE, xIAE) (by decide))) (fun q H locs hz hk hS => ?_)
    have hW := hW.kept (H1 := H) (fun q hq _ => hk q hq)
    have hO : oC G oa v H := va_at.kept hO (hk _ (va_at.lt hO))
    have hF : wallF M x = thr M 1 := by unfold wallF; rw [if_neg (by rw [hT]; decide), hT]
    refine lv_astore_n (lv' := [(2, .ref q), (0, .ref (ja 8 0)), (1, .int x)]) hx hb dL_wall_8 rfl hl (by decide) rfl (fun ls hl => ?_)
    refine lv_iconst (v := 1) hx hb dL_wall_9 (by decide) ?_
    subst hQ
    refine rt_qi ((ja, E) : JE) hx hb hr hlk hS ⟨hT.symm, rfl, by rw [hF]; exact hCE.set rfl, by rw [hF]; exact (hI.set rfl).Bm (by omega)⟩ (fun t9 ht9 _ => ?_) (by show 0 + 1 ≤ 1; omega) (by show 0 + 6 ≤ 6; omega) dL_wall_10
    show WJ G d0 Rf _ _ _ t9.heap ∧ oC G oa _ t9.heap
    rw [ht9, hF]
    exact ⟨hW.gh thr_lk, hO⟩
set_option maxHeartbeats 4000000 in
set_option maxRecDepth 100000 in
theorem lL_setClosed (l : Launch) (G : gG) (d0 mi : Nat) (Rf : Nat → Prop) (ja : Nat → Nat → Nat) (M : MS) (E : ES) (oa : Nat) (v : Int64) (x : Int32) (b : Bool) (B : Nat) (hI : INV B M) (hCE : CE M E) (hB : B < 100000) (hRo : Rf oa) (hl9 : l.stackTraces = false) : Met l yL_setClosed (Cond.codeWith yL_setClosed cL_setClosed 5 (some .int) [(0, 17, 20, 13)] :: BIG) (rmL 12 1 6) (va_Pc [.ref (ja 8 0), .int x, .int (bI b), .ref oa] (lJ G d0 mi Rf ja M E oa v)) (wQ G d0 Rf ja B oa (cellT x) (bI (closeR M x)) (closeF M x b)) 1 6 (lA Rf oa) := by
  refine st_H (own := RL) (by decide +kernel) rfl (Nat.le_of_ble_eq_true rfl) ?_
  intro p e s m below meth c ls args Q hQ hC hr hlk htab hl hP
  obtain ⟨⟨⟨hW, hX, hRf⟩, hT9⟩, hO, hN⟩ := hP
  have hK := hX.1
  have hx := hC.1
  have hb := hC.2.1
  have hl : lv_has ls 5 [(0, .ref (ja 8 0)), (1, .int x), (2, .int (bI b)), (3, .ref oa)] := hl
  refine lv_aload_n hx hb dL_setClosed_0 rfl (lv_at hl 3 rfl) ?_
  refine lv_iconst (v := 0) hx hb dL_setClosed_1 (by decide) ?_
  refine lv_aload_n hx hb dL_setClosed_2 rfl (lv_at hl 0 rfl) ?_
  refine lv_iload_n hx hb dL_setClosed_3 rfl (lv_at hl 1 rfl) ?_
  refine lv_iload_n hx hb dL_setClosed_4 rfl (lv_at hl 2 rfl) ?_
  by_cases h : inB x 64 = true
  · obtain ⟨j, hj, rfl⟩ := inB_of (n := 64) (by omega) h
    have ej : ix (nI j) = j := ix_nI (by omega)
    have hT : cellT (nI j) = 0 := by unfold cellT; rw [if_pos h]
    have hR : closeR M (nI j) = decide (¬ M 3 j = 0) := by unfold closeR; rw [h, ej, Bool.true_and]
    have hlk9 : ∀ k, gh k = false → closeF M (nI j) b k = mset M 3 j (bI b) k := fun k hk => by
      have h0 : k ≠ 0 := gh_ne hk rfl
      unfold closeF; rw [if_pos hT, ej]
      by_cases a : k = 3
      · subst a; rfl
      · simp only [mset, thr, if_neg h0, if_neg a]
    refine va_calli (run_V hC (cJ_X8_setClosed l G d0 mi Rf ja M E j b hj) (As := [.int (nI j), .int (bI b)]) (rest := [.int 0, .ref oa]) rfl rfl ml_L_17 im_X8_setClosed se_X8_setClosed ini_X8 cd_X8_setClosed ⟨rfl, na_X8_setClosed⟩ jB_blind (hW.recv hK (show jV M 8 0 from rfl) rfl) (jB_at hX hRf hW va_S.rf) hl.1 (Nat.le_of_ble_eq_true rfl) ⟨Nat.le_of_ble_eq_true rfl, Nat.le_of_ble_eq_true rfl⟩ ⟨by show 0 + 0 ≤ 1; omega, by show 0 + 0 ≤ 6; omega⟩ rfl dL_setClosed_5) va_S.rf (fun _ _ h => h) (fun _ h => h) (fun r u t H1 locs1 ht _ hp hB hz1 _ hS => ?_)
    rw [ht] at hB
    have hO : oC G oa v H1 := va_at.kept hO (hS.2.1 _ (va_at.lt hO) (fun z => z hRo))
    have hW := WJ.gh (M' := closeF M (nI j) b) hB hlk9
    have hp1 := hp.1
    rw [← hR] at hp1
    subst hp1
    have fin : ∀ w : Int64, w = (bI (closeR M (nI j))).toInt64 → W p l e (rmL 12 1 6) s m args below meth c H1 locs1 (0 + 0) (0 + 0) Q (F0 m 16 ls [.long w, .int 0, .ref oa]) := fun w hw => by
      refine r2_lst hC hK (A := lA Rf oa) hO (S_lA hS) (Or.inr rfl) dL_setClosed_16 (fun H locs hO hz hoq hS => ?_)
      have hW := hW.kept (H1 := H) (fun q hq hnR => hoq q (fun e9 => hnR (by rw [e9]; exact hRo)))
      refine lv_goto (tgt := 24) hx hb dL_setClosed_17 (by decide) ?_
      refine lv_iconst (v := 0) hx hb dL_setClosed_24 (by decide) ?_
      subst hQ
      exact rt_qi (((ja, E), w) : JE × Int64) hx hb hr hlk hS ⟨hT.symm, fun _ => hw, rfl, CE_close hCE, (INV_close hI).Bm (by omega)⟩ (fun t9 ht9 _ => by show WJ G d0 Rf _ _ _ t9.heap ∧ oC G oa _ t9.heap; rw [ht9]; exact ⟨hW, hO⟩) (by show 0 + 0 ≤ 1; omega) (by show 0 + 0 ≤ 6; omega) dL_setClosed_25
    refine lb_eq (tgt := 15) hx hb dL_setClosed_8 (by decide) (fun hz9 => ?_) (fun hz9 => ?_)
    · refine lv_lconst (v := 0) hx hb dL_setClosed_15 (by decide) ?_
      exact fin 0 (by rw [hz9]; decide)
    · refine lv_lconst (v := 1) hx hb dL_setClosed_11 (by decide) ?_
      refine lv_goto (tgt := 16) hx hb dL_setClosed_12 (by decide) ?_
      exact fin 1 (by rw [hz9]; decide)
  · have hT : cellT x = 1 := by unfold cellT; rw [if_neg h]
    have hno : inB x 64 = false := by simpa using h
    refine jl_catch (A0 := lA Rf oa) (run_VX hC (cJ_X8_setClosedX1 l G d0 mi Rf ja M E x b hno hl9) (As := [.int x, .int (bI b)]) (rest := [.int 0, .ref oa]) rfl rfl ml_L_17 im_X8_setClosed se_X8_setClosed ini_X8 cd_X8_setClosed ⟨rfl, na_X8_setClosed⟩ jT_blind (hW.recv hK (show jV M 8 0 from rfl) rfl) (jT_at hX hT9 hRf hW va_S.rf) hl.1 (Nat.le_of_ble_eq_true rfl) ⟨Nat.le_of_ble_eq_true rfl, Nat.le_of_ble_eq_true rfl⟩ ⟨by show 0 + 1 ≤ 1; omega, by show 0 + 6 ≤ 6; omega⟩ rfl dL_setClosed_5) va_S.rf (fun q h => Or.inl h) hC.2.2.2.1 [] ⟨0, 17, 20, 13⟩ [] htab (fun z hz => nomatch hz) (by decide) (by decide) (hC.2.2.2.2 _ cl_L_13) (va_Nw.use rfl (hT9.2.1 (xIAE, xIAE) (by decide))) (fun q H locs hz hk hS => ?_)
    have hW := hW.kept (H1 := H) (fun q hq _ => hk q hq)
    have hO : oC G oa v H := va_at.kept hO (hk _ (va_at.lt hO))
    have hF : closeF M x b = thr M 1 := by unfold closeF; rw [if_neg (by rw [hT]; decide)]
    refine lv_astore (lv' := [(4, .ref q), (0, .ref (ja 8 0)), (1, .int x), (2, .int (bI b)), (3, .ref oa)]) hx hb dL_setClosed_20 hl (by decide) rfl (fun ls hl => ?_)
    refine lv_iconst (v := 1) hx hb dL_setClosed_22 (by decide) ?_
    subst hQ
    refine rt_qi (((ja, E), v) : JE × Int64) hx hb hr hlk hS ⟨hT.symm, fun z => by rw [hT] at z; exact absurd z (by decide), rfl, by rw [hF]; exact hCE.set rfl, by rw [hF]; exact (hI.set rfl).Bm (by omega)⟩ (fun t9 ht9 _ => ?_) (by show 0 + 1 ≤ 1; omega) (by show 0 + 6 ≤ 6; omega) dL_setClosed_23
    show WJ G d0 Rf _ _ _ t9.heap ∧ oC G oa _ t9.heap
    rw [ht9, hF]
    exact ⟨hW.gh thr_lk, hO⟩
