/-! WRAPPERS THAT WRITE -/
theorem S_lA {Rf : Nat → Prop} {oa : Nat} {H0 H : Heap} {locs : List Loc} (h : va_S (jA Rf) H0 H locs) : va_S (lA Rf oa) H0 H locs := ⟨h.1, fun q a b => h.2.1 q a (fun z => b (Or.inl z)), fun q hq => Or.inl (h.2.2 q hq)⟩
theorem thr_lk {M : MS} {k : Int32} : ∀ r, gh r = false → thr M k r = M r := fun r hr => mset_n M 0 k (gh_ne hr rfl)
/-- what a wrapper that writes leaves -/
def wQ (G : gG) (d0 : Nat) (Rf : Nat → Prop) (ja : Nat → Nat → Nat) (B : Nat) (oa : Nat) (T R : Int32) (M' : MS) : Array Value → State → Outcome → State → Prop :=
  va_Qi (S := JE × Int64) (fun r u => r = T ∧ (T = 0 → u.2 = R.toInt64) ∧ u.1.1 8 0 = ja 8 0 ∧ CE M' u.1.2 ∧ INV (B + 1) M') (fun u t => WJ G d0 Rf u.1.1 M' u.1.2 t.heap ∧ oC G oa u.2 t.heap) (lA Rf oa)
theorem trayR_lk {M : MS} {h g : Nat} {a : Int32} (hg : g < 6) (hT : trayT M (nI h) (nI g) a = 0) : ∀ k, k ≠ 0 → trayF M (nI h) (nI g) a k = trR M h g a k := fun k h0 => by
  unfold trayF trR trD
  rw [if_pos hT, ix_nI (show g < 2147483648 by omega)]
  by_cases a : k = 32
  · subst a; rfl
  · simp only [mset, thr, if_neg h0, if_neg a]
theorem trR_n {M : MS} {h g : Nat} {a : Int32} {k : Nat} (hk : k ≠ 32) : trR M h g a k = trD M (nI h) (nI g) a k := mset_n _ _ _ hk
theorem cl_gh {M : MS} {s K : Nat} : ∀ k, gh k = false → clX M s K k = mset M 14 K (nI s) k := fun k hk => by
  have h15 : k ≠ 15 := gh_ne hk rfl
  have h16 : k ≠ 16 := gh_ne hk rfl
  unfold clX
  simp only [mset, if_neg h15, if_neg h16]
theorem rg_nat {x : Int32} {n : Nat} (hn : n < 2147483647) (h1 : ¬ x < 1) (h2 : x ≤ nI n) : ∃ a, 0 < a ∧ a ≤ n ∧ x = nI a := by
  have h1' : ¬ x.toInt < 1 := fun z => h1 (Int32.lt_iff_toInt_lt.mpr (by have : (1 : Int32).toInt = 1 := by decide
                                                                         omega))
  have h0 : ¬ x < 0 := fun z => by
    have := Int32.lt_iff_toInt_lt.mp z
    have e0 : (0 : Int32).toInt = 0 := by decide
    omega
  obtain ⟨j, hj, e⟩ := nI_of h0
  have h2' := Int32.le_iff_toInt_le.mp h2
  rw [e, nI_toInt (by omega), nI_toInt (by omega)] at h2'
  rw [e, nI_toInt (by omega)] at h1'
  exact ⟨j, by omega, by omega, e⟩
set_option maxHeartbeats 4000000 in
set_option maxRecDepth 100000 in
theorem lL_die (l : Launch) (G : gG) (d0 mi : Nat) (Rf : Nat → Prop) (ja : Nat → Nat → Nat) (M : MS) (E : ES) (oa : Nat) (v : Int64) (x : Int32) (B : Nat) (hI : INV B M) (hCE : CE M E) (hB : B < 100000) (hRo : Rf oa) (hl9 : l.stackTraces = false) : Met l yL_die (Cond.codeWith yL_die cL_die 4 (some .int) [(0, 9, 12, 36), (0, 9, 15, 15)] :: BIG) (rmL 12 1 6) (va_Pc [.ref (ja 8 0), .int x, .ref oa] (lJ G d0 mi Rf ja M E oa v)) (wQ G d0 Rf ja B oa (dieT M x) (dieR M x) (dieF M x)) 1 6 (lA Rf oa) := by
  refine st_H (own := RL) (by decide +kernel) rfl (Nat.le_of_ble_eq_true rfl) ?_
  intro p e s m below meth c ls args Q hQ hC hr hlk htab hl hP
  obtain ⟨⟨⟨hW, hX, hRf⟩, hT9⟩, hO, hN⟩ := hP
  have hK := hX.1
  have hx := hC.1
  have hb := hC.2.1
  have hl : lv_has ls 4 [(0, .ref (ja 8 0)), (1, .int x), (2, .ref oa)] := hl
  have h16 := hW.cnt.T16
  have h6 := hW.cnt.R6
  have h10 := hW.cnt.O10
  have h3 := hW.cnt.S3
  refine lv_aload_n hx hb dL_die_0 rfl (lv_at hl 2 rfl) ?_
  refine lv_iconst (v := 0) hx hb dL_die_1 (by decide) ?_
  refine lv_aload_n hx hb dL_die_2 rfl (lv_at hl 0 rfl) ?_
  refine lv_iload_n hx hb dL_die_3 rfl (lv_at hl 1 rfl) ?_
  by_cases h : inB x (nI (nR M)) = true
  · obtain ⟨j, hj, rfl⟩ := inB_of (n := nR M) (by omega) h
    have ej : ix (nI j) = j := ix_nI (by omega)
    obtain ⟨c0, hc0, ec0⟩ := (hI.r.1 j hj).1
    by_cases h5 : M 20 j = 5
    · have hT : dieT M (nI j) = 2 := by unfold dieT; rw [if_pos h, ej, if_pos h5]
      refine jl_catch (A0 := lA Rf oa) (run_VX hC (cJ_X8_dieX2 l G d0 mi Rf ja M E j hj h5 hl9) (As := [.int (nI j)]) (rest := [.int 0, .ref oa]) rfl rfl ml_L_66 im_X8_die se_X8_die ini_X8 cd_X8_die ⟨rfl, na_X8_die⟩ jT_blind (hW.recv hK (show jV M 8 0 from rfl) rfl) (jT_at hX hT9 hRf hW va_S.rf) hl.1 (Nat.le_of_ble_eq_true rfl) ⟨Nat.le_of_ble_eq_true rfl, Nat.le_of_ble_eq_true rfl⟩ ⟨by show 0 + 1 ≤ 1; omega, by show 0 + 6 ≤ 6; omega⟩ rfl dL_die_4) va_S.rf (fun q h => Or.inl h) hC.2.2.2.1 [⟨0, 9, 12, 36⟩] ⟨0, 9, 15, 15⟩ [] htab (fun z hz => by simp only [List.mem_cons, List.not_mem_nil, or_false] at hz; rcases hz with rfl; all_goals first | exact Or.inr ⟨by decide, _, hC.2.2.2.2 _ cl_L_36, hN.2.2⟩) (by decide) (by decide) (hC.2.2.2.2 _ cl_L_15) (va_Nw.use rfl (hT9.2.1 (xISE, xISE) (by decide))) (fun q H locs hz hk hS => ?_)
      have hW := hW.kept (H1 := H) (fun q hq _ => hk q hq)
      have hO : oC G oa v H := va_at.kept hO (hk _ (va_at.lt hO))
      have hF : dieF M (nI j) = thr M 2 := by unfold dieF; rw [if_neg (by rw [hT]; decide), hT]
      refine lv_astore_n (lv' := [(3, .ref q), (0, .ref (ja 8 0)), (1, .int (nI j)), (2, .ref oa)]) hx hb dL_die_15 rfl hl (by decide) rfl (fun ls hl => ?_)
      refine lv_iconst (v := 2) hx hb dL_die_16 (by decide) ?_
      subst hQ
      refine rt_qi (((ja, E), v) : JE × Int64) hx hb hr hlk hS ⟨hT.symm, fun z => by rw [hT] at z; exact absurd z (by decide), rfl, by rw [hF]; exact hCE.set rfl, by rw [hF]; exact (hI.set rfl).Bm (by omega)⟩ (fun t9 ht9 _ => ?_) (by show 0 + 1 ≤ 1; omega) (by show 0 + 6 ≤ 6; omega) dL_die_17
      show WJ G d0 Rf _ _ _ t9.heap ∧ oC G oa _ t9.heap
      rw [ht9, hF]
      exact ⟨hW.gh thr_lk, hO⟩
    · have hT : dieT M (nI j) = 0 := by unfold dieT; rw [if_pos h, ej, if_neg h5]
      have hlk9 := die_lk (M := M) (r := j) (by omega) hT
      refine va_calli (run_V hC (cJ_X8_die l G d0 mi Rf ja M E j c0 hj ec0 hc0 h5) (As := [.int (nI j)]) (rest := [.int 0, .ref oa]) rfl rfl ml_L_66 im_X8_die se_X8_die ini_X8 cd_X8_die ⟨rfl, na_X8_die⟩ jB_blind (hW.recv hK (show jV M 8 0 from rfl) rfl) (jB_at hX hRf hW va_S.rf) hl.1 (Nat.le_of_ble_eq_true rfl) ⟨Nat.le_of_ble_eq_true rfl, Nat.le_of_ble_eq_true rfl⟩ ⟨by show 0 + 0 ≤ 1; omega, by show 0 + 0 ≤ 6; omega⟩ rfl dL_die_4) va_S.rf (fun _ _ h => h) (fun _ h => h) (fun r u t H1 locs1 ht _ hp hB hz1 _ hS => ?_)
      rw [ht] at hB
      have hO : oC G oa v H1 := va_at.kept hO (hS.2.1 _ (va_at.lt hO) (fun z => z hRo))
      have hp1 := hp.1
      have hW := WJ.gh (M' := dieF M (nI j)) hB (fun k hk => by rw [dw_lk]; exact hlk9 k (gh_ne hk rfl))
      refine lv_i2l hx hb dL_die_7 rfl ?_
      refine r2_lst hC hK (A := lA Rf oa) hO (S_lA hS) (Or.inr rfl) dL_die_8 (fun H locs hO hz hoq hS => ?_)
      have hW := hW.kept (H1 := H) (fun q hq hnR => hoq q (fun e9 => hnR (by rw [e9]; exact hRo)))
      refine lv_goto (tgt := 18) hx hb dL_die_9 (by decide) ?_
      refine lv_iconst (v := 0) hx hb dL_die_18 (by decide) ?_
      subst hQ
      exact rt_qi (((ja, eD_ E (fun q => if q = c0 then true else eD E q)), r.toInt64) : JE × Int64) hx hb hr hlk hS ⟨hT.symm, fun _ => congrArg Int32.toInt64 (hp1.trans (by rw [dw_lk]; unfold dieR; rw [if_pos hT, ej]; unfold dieX; rw [bec_21, if_neg (by decide), mset_s, upd_s])), rfl, (CE_die hCE hI hj ec0 hc0).cg (fun k hk => hlk9 k (fun q => by rw [q] at hk; cases hk)), ((INV_die hI hj).cg (fun k hk => hlk9 k (inv_ne hk rfl))).Bm (by omega)⟩ (fun t9 ht9 _ => by show WJ G d0 Rf _ _ _ t9.heap ∧ oC G oa _ t9.heap; rw [ht9]; exact ⟨hW, hO⟩) (by show 0 + 0 ≤ 1; omega) (by show 0 + 0 ≤ 6; omega) dL_die_19
  · have hT : dieT M x = 1 := by unfold dieT; rw [if_neg h]
    have hno : inB x (nI (nR M)) = false := by simpa using h
    refine jl_catch (A0 := lA Rf oa) (run_VX hC (cJ_X8_dieX1 l G d0 mi Rf ja M E x hno hl9) (As := [.int x]) (rest := [.int 0, .ref oa]) rfl rfl ml_L_66 im_X8_die se_X8_die ini_X8 cd_X8_die ⟨rfl, na_X8_die⟩ jT_blind (hW.recv hK (show jV M 8 0 from rfl) rfl) (jT_at hX hT9 hRf hW va_S.rf) hl.1 (Nat.le_of_ble_eq_true rfl) ⟨Nat.le_of_ble_eq_true rfl, Nat.le_of_ble_eq_true rfl⟩ ⟨by show 0 + 1 ≤ 1; omega, by show 0 + 6 ≤ 6; omega⟩ rfl dL_die_4) va_S.rf (fun q h => Or.inl h) hC.2.2.2.1 [] ⟨0, 9, 12, 36⟩ [⟨0, 9, 15, 15⟩] htab (fun z hz => nomatch hz) (by decide) (by decide) (hC.2.2.2.2 _ cl_L_36) (va_Nw.use rfl (hT9.2.1 (xIOE, xIOE) (by decide))) (fun q H locs hz hk hS => ?_)
    have hW := hW.kept (H1 := H) (fun q hq _ => hk q hq)
    have hO : oC G oa v H := va_at.kept hO (hk _ (va_at.lt hO))
    have hF : dieF M x = thr M 1 := by unfold dieF; rw [if_neg (by rw [hT]; decide), hT]
    refine lv_astore_n (lv' := [(3, .ref q), (0, .ref (ja 8 0)), (1, .int x), (2, .ref oa)]) hx hb dL_die_12 rfl hl (by decide) rfl (fun ls hl => ?_)
    refine lv_iconst (v := 1) hx hb dL_die_13 (by decide) ?_
    subst hQ
    refine rt_qi (((ja, E), v) : JE × Int64) hx hb hr hlk hS ⟨hT.symm, fun z => by rw [hT] at z; exact absurd z (by decide), rfl, by rw [hF]; exact hCE.set rfl, by rw [hF]; exact (hI.set rfl).Bm (by omega)⟩ (fun t9 ht9 _ => ?_) (by show 0 + 1 ≤ 1; omega) (by show 0 + 6 ≤ 6; omega) dL_die_14
    show WJ G d0 Rf _ _ _ t9.heap ∧ oC G oa _ t9.heap
    rw [ht9, hF]
    exact ⟨hW.gh thr_lk, hO⟩
set_option maxHeartbeats 4000000 in
set_option maxRecDepth 100000 in
theorem lL_repair (l : Launch) (G : gG) (d0 mi : Nat) (Rf : Nat → Prop) (ja : Nat → Nat → Nat) (M : MS) (E : ES) (oa : Nat) (v : Int64) (x : Int32) (B : Nat) (hI : INV B M) (hCE : CE M E) (hB : B < 100000) (hRo : Rf oa) (hl9 : l.stackTraces = false) : Met l yL_repair (Cond.codeWith yL_repair cL_repair 4 (some .int) [(0, 9, 12, 36), (0, 9, 15, 15)] :: BIG) (rmL 12 1 6) (va_Pc [.ref (ja 8 0), .int x, .ref oa] (lJ G d0 mi Rf ja M E oa v)) (wQ G d0 Rf ja B oa (repT M x) (repR M x) (repF M x)) 1 6 (lA Rf oa) := by
  refine st_H (own := RL) (by decide +kernel) rfl (Nat.le_of_ble_eq_true rfl) ?_
  intro p e s m below meth c ls args Q hQ hC hr hlk htab hl hP
  obtain ⟨⟨⟨hW, hX, hRf⟩, hT9⟩, hO, hN⟩ := hP
  have hK := hX.1
  have hx := hC.1
  have hb := hC.2.1
  have hl : lv_has ls 4 [(0, .ref (ja 8 0)), (1, .int x), (2, .ref oa)] := hl
  have h16 := hW.cnt.T16
  have h6 := hW.cnt.R6
  have h10 := hW.cnt.O10
  have h3 := hW.cnt.S3
  refine lv_aload_n hx hb dL_repair_0 rfl (lv_at hl 2 rfl) ?_
  refine lv_iconst (v := 0) hx hb dL_repair_1 (by decide) ?_
  refine lv_aload_n hx hb dL_repair_2 rfl (lv_at hl 0 rfl) ?_
  refine lv_iload_n hx hb dL_repair_3 rfl (lv_at hl 1 rfl) ?_
  by_cases h : inB x (nI (nR M)) = true
  · obtain ⟨j, hj, rfl⟩ := inB_of (n := nR M) (by omega) h
    have ej : ix (nI j) = j := ix_nI (by omega)
    obtain ⟨c0, hc0, ec0⟩ := (hI.r.1 j hj).1
    by_cases h5 : M 20 j = 5
    · have hT : repT M (nI j) = 0 := by unfold repT; rw [if_pos h, ej, if_pos h5]
      have hlk9 := rep_lk (M := M) (r := j) (by omega) hT
      refine va_calli (run_V hC (cJ_X8_repair l G d0 mi Rf ja M E j c0 hj ec0 hc0 h5) (As := [.int (nI j)]) (rest := [.int 0, .ref oa]) rfl rfl ml_L_69 im_X8_repair se_X8_repair ini_X8 cd_X8_repair ⟨rfl, na_X8_repair⟩ jB_blind (hW.recv hK (show jV M 8 0 from rfl) rfl) (jB_at hX hRf hW va_S.rf) hl.1 (Nat.le_of_ble_eq_true rfl) ⟨Nat.le_of_ble_eq_true rfl, Nat.le_of_ble_eq_true rfl⟩ ⟨by show 0 + 0 ≤ 1; omega, by show 0 + 0 ≤ 6; omega⟩ rfl dL_repair_4) va_S.rf (fun _ _ h => h) (fun _ h => h) (fun r u t H1 locs1 ht _ hp hB hz1 _ hS => ?_)
      rw [ht] at hB
      have hO : oC G oa v H1 := va_at.kept hO (hS.2.1 _ (va_at.lt hO) (fun z => z hRo))
      have hp1 := hp.1
      have hW := WJ.gh (M' := repF M (nI j)) hB (fun k hk => by rw [rp_lk (hI.r.1 j hj).2.1 h5]; exact hlk9 k (gh_ne hk rfl))
      refine lv_i2l hx hb dL_repair_7 rfl ?_
      refine r2_lst hC hK (A := lA Rf oa) hO (S_lA hS) (Or.inr rfl) dL_repair_8 (fun H locs hO hz hoq hS => ?_)
      have hW := hW.kept (H1 := H) (fun q hq hnR => hoq q (fun e9 => hnR (by rw [e9]; exact hRo)))
      refine lv_goto (tgt := 18) hx hb dL_repair_9 (by decide) ?_
      refine lv_iconst (v := 0) hx hb dL_repair_18 (by decide) ?_
      subst hQ
      exact rt_qi (((ja, eD_ E (fun q => if q = c0 then false else eD E q)), r.toInt64) : JE × Int64) hx hb hr hlk hS ⟨hT.symm, fun _ => congrArg Int32.toInt64 (hp1.trans (by unfold repR rpX; rw [if_pos hT, ej])), rfl, (CE_rep hCE hI hj ec0 hc0).cg (fun k hk => hlk9 k (fun q => by rw [q] at hk; cases hk)), ((INV_rep hI hj).cg (fun k hk => hlk9 k (inv_ne hk rfl))).Bm (by omega)⟩ (fun t9 ht9 _ => by show WJ G d0 Rf _ _ _ t9.heap ∧ oC G oa _ t9.heap; rw [ht9]; exact ⟨hW, hO⟩) (by show 0 + 0 ≤ 1; omega) (by show 0 + 0 ≤ 6; omega) dL_repair_19
    · have hT : repT M (nI j) = 2 := by unfold repT; rw [if_pos h, ej, if_neg h5]
      refine jl_catch (A0 := lA Rf oa) (run_VX hC (cJ_X8_repairX2 l G d0 mi Rf ja M E j hj h5 hl9) (As := [.int (nI j)]) (rest := [.int 0, .ref oa]) rfl rfl ml_L_69 im_X8_repair se_X8_repair ini_X8 cd_X8_repair ⟨rfl, na_X8_repair⟩ jT_blind (hW.recv hK (show jV M 8 0 from rfl) rfl) (jT_at hX hT9 hRf hW va_S.rf) hl.1 (Nat.le_of_ble_eq_true rfl) ⟨Nat.le_of_ble_eq_true rfl, Nat.le_of_ble_eq_true rfl⟩ ⟨by show 0 + 1 ≤ 1; omega, by show 0 + 6 ≤ 6; omega⟩ rfl dL_repair_4) va_S.rf (fun q h => Or.inl h) hC.2.2.2.1 [⟨0, 9, 12, 36⟩] ⟨0, 9, 15, 15⟩ [] htab (fun z hz => by simp only [List.mem_cons, List.not_mem_nil, or_false] at hz; rcases hz with rfl; all_goals first | exact Or.inr ⟨by decide, _, hC.2.2.2.2 _ cl_L_36, hN.2.2⟩) (by decide) (by decide) (hC.2.2.2.2 _ cl_L_15) (va_Nw.use rfl (hT9.2.1 (xISE, xISE) (by decide))) (fun q H locs hz hk hS => ?_)
      have hW := hW.kept (H1 := H) (fun q hq _ => hk q hq)
      have hO : oC G oa v H := va_at.kept hO (hk _ (va_at.lt hO))
      have hF : repF M (nI j) = thr M 2 := by unfold repF; rw [if_neg (by rw [hT]; decide), hT]
      refine lv_astore_n (lv' := [(3, .ref q), (0, .ref (ja 8 0)), (1, .int (nI j)), (2, .ref oa)]) hx hb dL_repair_15 rfl hl (by decide) rfl (fun ls hl => ?_)
      refine lv_iconst (v := 2) hx hb dL_repair_16 (by decide) ?_
      subst hQ
      refine rt_qi (((ja, E), v) : JE × Int64) hx hb hr hlk hS ⟨hT.symm, fun z => by rw [hT] at z; exact absurd z (by decide), rfl, by rw [hF]; exact hCE.set rfl, by rw [hF]; exact (hI.set rfl).Bm (by omega)⟩ (fun t9 ht9 _ => ?_) (by show 0 + 1 ≤ 1; omega) (by show 0 + 6 ≤ 6; omega) dL_repair_17
      show WJ G d0 Rf _ _ _ t9.heap ∧ oC G oa _ t9.heap
      rw [ht9, hF]
      exact ⟨hW.gh thr_lk, hO⟩
  · have hT : repT M x = 1 := by unfold repT; rw [if_neg h]
    have hno : inB x (nI (nR M)) = false := by simpa using h
    refine jl_catch (A0 := lA Rf oa) (run_VX hC (cJ_X8_repairX1 l G d0 mi Rf ja M E x hno hl9) (As := [.int x]) (rest := [.int 0, .ref oa]) rfl rfl ml_L_69 im_X8_repair se_X8_repair ini_X8 cd_X8_repair ⟨rfl, na_X8_repair⟩ jT_blind (hW.recv hK (show jV M 8 0 from rfl) rfl) (jT_at hX hT9 hRf hW va_S.rf) hl.1 (Nat.le_of_ble_eq_true rfl) ⟨Nat.le_of_ble_eq_true rfl, Nat.le_of_ble_eq_true rfl⟩ ⟨by show 0 + 1 ≤ 1; omega, by show 0 + 6 ≤ 6; omega⟩ rfl dL_repair_4) va_S.rf (fun q h => Or.inl h) hC.2.2.2.1 [] ⟨0, 9, 12, 36⟩ [⟨0, 9, 15, 15⟩] htab (fun z hz => nomatch hz) (by decide) (by decide) (hC.2.2.2.2 _ cl_L_36) (va_Nw.use rfl (hT9.2.1 (xIOE, xIOE) (by decide))) (fun q H locs hz hk hS => ?_)
    have hW := hW.kept (H1 := H) (fun q hq _ => hk q hq)
    have hO : oC G oa v H := va_at.kept hO (hk _ (va_at.lt hO))
    have hF : repF M x = thr M 1 := by unfold repF; rw [if_neg (by rw [hT]; decide), hT]
    refine lv_astore_n (lv' := [(3, .ref q), (0, .ref (ja 8 0)), (1, .int x), (2, .ref oa)]) hx hb dL_repair_12 rfl hl (by decide) rfl (fun ls hl => ?_)
    refine lv_iconst (v := 1) hx hb dL_repair_13 (by decide) ?_
    subst hQ
    refine rt_qi (((ja, E), v) : JE × Int64) hx hb hr hlk hS ⟨hT.symm, fun z => by rw [hT] at z; exact absurd z (by decide), rfl, by rw [hF]; exact hCE.set rfl, by rw [hF]; exact (hI.set rfl).Bm (by omega)⟩ (fun t9 ht9 _ => ?_) (by show 0 + 1 ≤ 1; omega) (by show 0 + 6 ≤ 6; omega) dL_repair_14
    show WJ G d0 Rf _ _ _ t9.heap ∧ oC G oa _ t9.heap
    rw [ht9, hF]
    exact ⟨hW.gh thr_lk, hO⟩
set_option maxHeartbeats 4000000 in
set_option maxRecDepth 100000 in
theorem lL_fill (l : Launch) (G : gG) (d0 mi : Nat) (Rf : Nat → Prop) (ja : Nat → Nat → Nat) (M : MS) (E : ES) (oa : Nat) (v : Int64) (x : Int32) (y : Int32) (B : Nat) (hI : INV B M) (hCE : CE M E) (hB : B < 100000) (hRo : Rf oa) (hl9 : l.stackTraces = false) : Met l yL_fill (Cond.codeWith yL_fill cL_fill 5 (some .int) [(0, 10, 13, 36), (0, 10, 17, 13), (0, 10, 21, 15)] :: BIG) (rmL 12 1 6) (va_Pc [.ref (ja 8 0), .int x, .int y, .ref oa] (lJ G d0 mi Rf ja M E oa v)) (wQ G d0 Rf ja B oa (fillT M x y) (fillR M x y) (fillF M x y)) 1 6 (lA Rf oa) := by
  refine st_H (own := RL) (by decide +kernel) rfl (Nat.le_of_ble_eq_true rfl) ?_
  intro p e s m below meth c ls args Q hQ hC hr hlk htab hl hP
  obtain ⟨⟨⟨hW, hX, hRf⟩, hT9⟩, hO, hN⟩ := hP
  have hK := hX.1
  have hx := hC.1
  have hb := hC.2.1
  have hl : lv_has ls 5 [(0, .ref (ja 8 0)), (1, .int x), (2, .int y), (3, .ref oa)] := hl
  have h16 := hW.cnt.T16
  have h6 := hW.cnt.R6
  have h10 := hW.cnt.O10
  have h3 := hW.cnt.S3
  refine lv_aload_n hx hb dL_fill_0 rfl (lv_at hl 3 rfl) ?_
  refine lv_iconst (v := 0) hx hb dL_fill_1 (by decide) ?_
  refine lv_aload_n hx hb dL_fill_2 rfl (lv_at hl 0 rfl) ?_
  refine lv_iload_n hx hb dL_fill_3 rfl (lv_at hl 1 rfl) ?_
  refine lv_iload_n hx hb dL_fill_4 rfl (lv_at hl 2 rfl) ?_
  by_cases h : inB x (nI (nT M)) = true
  · obtain ⟨j, hj, rfl⟩ := inB_of (n := nT M) (by omega) h
    have ej : ix (nI j) = j := ix_nI (by omega)
    by_cases ha : y < 1 ∨ ¬ y ≤ 100
    · have hT : fillT M (nI j) y = 2 := by unfold fillT; rw [if_pos h, if_pos ha]
      refine jl_catch (A0 := lA Rf oa) (run_VX hC (cJ_X8_fillX2 l G d0 mi Rf ja M E j y hj (fun z => ha.elim z.1 (fun w => w z.2)) hl9) (As := [.int (nI j), .int y]) (rest := [.int 0, .ref oa]) rfl rfl ml_L_33 im_X8_fill se_X8_fill ini_X8 cd_X8_fill ⟨rfl, na_X8_fill⟩ jT_blind (hW.recv hK (show jV M 8 0 from rfl) rfl) (jT_at hX hT9 hRf hW va_S.rf) hl.1 (Nat.le_of_ble_eq_true rfl) ⟨Nat.le_of_ble_eq_true rfl, Nat.le_of_ble_eq_true rfl⟩ ⟨by show 0 + 1 ≤ 1; omega, by show 0 + 6 ≤ 6; omega⟩ rfl dL_fill_5) va_S.rf (fun q h => Or.inl h) hC.2.2.2.1 [⟨0, 10, 13, 36⟩] ⟨0, 10, 17, 13⟩ [⟨0, 10, 21, 15⟩] htab (fun z hz => by simp only [List.mem_cons, List.not_mem_nil, or_false] at hz; rcases hz with rfl; all_goals first | exact Or.inr ⟨by decide, _, hC.2.2.2.2 _ cl_L_36, hN.2.1⟩) (by decide) (by decide) (hC.2.2.2.2 _ cl_L_13) (va_Nw.use rfl (hT9.2.1 (xIAE, xIAE) (by decide))) (fun q H locs hz hk hS => ?_)
      have hW := hW.kept (H1 := H) (fun q hq _ => hk q hq)
      have hO : oC G oa v H := va_at.kept hO (hk _ (va_at.lt hO))
      have hF : fillF M (nI j) y = thr M 2 := by unfold fillF; rw [if_neg (by rw [hT]; decide), hT]
      refine lv_astore (lv' := [(4, .ref q), (0, .ref (ja 8 0)), (1, .int (nI j)), (2, .int y), (3, .ref oa)]) hx hb dL_fill_17 hl (by decide) rfl (fun ls hl => ?_)
      refine lv_iconst (v := 2) hx hb dL_fill_19 (by decide) ?_
      subst hQ
      refine rt_qi (((ja, E), v) : JE × Int64) hx hb hr hlk hS ⟨hT.symm, fun z => by rw [hT] at z; exact absurd z (by decide), rfl, by rw [hF]; exact hCE.set rfl, by rw [hF]; exact (hI.set rfl).Bm (by omega)⟩ (fun t9 ht9 _ => ?_) (by show 0 + 1 ≤ 1; omega) (by show 0 + 6 ≤ 6; omega) dL_fill_20
      show WJ G d0 Rf _ _ _ t9.heap ∧ oC G oa _ t9.heap
      rw [ht9, hF]
      exact ⟨hW.gh thr_lk, hO⟩
    · obtain ⟨a, ha0, ha1, rfl⟩ : ∃ a, 0 < a ∧ a ≤ 100 ∧ y = nI a := rg_nat (by decide) (fun z => ha (Or.inl z)) (Classical.byContradiction (fun z => ha (Or.inr z)))
      have hrw := rwA_car hI.u21 (t := j) (by omega)
      by_cases hcr : carA M j = none
      · have hT : fillT M (nI j) (nI a) = 0 := by unfold fillT; rw [if_pos h, if_neg ha, if_pos (hrw.trans hcr)]
        obtain ⟨g0, hg0, eg0⟩ := (hI.f.2.1 j hj).2
        have hlk9 : ∀ k, k ≠ 0 → fillF M (nI j) (nI a) k = mset (mset M 9 j (M 9 j + nI a)) 32 g0 (M 32 g0 + nI a) k := fun k h0 => by
          unfold fillF; rw [if_pos hT, ej, eg0, ix_nI (by omega)]; simp only [mset, thr, if_neg h0]
        refine va_calli (run_V hC (cJ_X8_fill l G d0 mi Rf ja M E j a hj hI.u21 (by omega) ha0 ha1 hcr) (As := [.int (nI j), .int (nI a)]) (rest := [.int 0, .ref oa]) rfl rfl ml_L_33 im_X8_fill se_X8_fill ini_X8 cd_X8_fill ⟨rfl, na_X8_fill⟩ jB_blind (hW.recv hK (show jV M 8 0 from rfl) rfl) (jB_at hX hRf hW va_S.rf) hl.1 (Nat.le_of_ble_eq_true rfl) ⟨Nat.le_of_ble_eq_true rfl, Nat.le_of_ble_eq_true rfl⟩ ⟨by show 0 + 0 ≤ 1; omega, by show 0 + 0 ≤ 6; omega⟩ rfl dL_fill_5) va_S.rf (fun _ _ h => h) (fun _ h => h) (fun r u t H1 locs1 ht _ hp hB hz1 _ hS => ?_)
        rw [ht] at hB
        have hO : oC G oa v H1 := va_at.kept hO (hS.2.1 _ (va_at.lt hO) (fun z => z hRo))
        have hp1 := hp.1
        have hW := WJ.gh (M' := fillF M (nI j) (nI a)) hB (fun k hk => by rw [hlk9 k (gh_ne hk rfl)]; exact mset_n _ _ _ (gh_ne hk rfl))
        refine lv_i2l hx hb dL_fill_8 rfl ?_
        refine r2_lst hC hK (A := lA Rf oa) hO (S_lA hS) (Or.inr rfl) dL_fill_9 (fun H locs hO hz hoq hS => ?_)
        have hW := hW.kept (H1 := H) (fun q hq hnR => hoq q (fun e9 => hnR (by rw [e9]; exact hRo)))
        refine lv_goto (tgt := 25) hx hb dL_fill_10 (by decide) ?_
        refine lv_iconst (v := 0) hx hb dL_fill_25 (by decide) ?_
        subst hQ
        exact rt_qi (((ja, eR_ E (upd (eR E) j (eR E j + nI a))), r.toInt64) : JE × Int64) hx hb hr hlk hS ⟨hT.symm, fun _ => congrArg Int32.toInt64 (hp1.trans (by unfold fillR; rw [if_pos hT, ej])), rfl, (CE_fill hCE hj eg0 hg0).cg (fun k hk => hlk9 k (fun q => by rw [q] at hk; cases hk)), (INV_fill hI).Bm (by omega)⟩ (fun t9 ht9 _ => by show WJ G d0 Rf _ _ _ t9.heap ∧ oC G oa _ t9.heap; rw [ht9]; exact ⟨hW, hO⟩) (by show 0 + 0 ≤ 1; omega) (by show 0 + 0 ≤ 6; omega) dL_fill_26
      · have hT : fillT M (nI j) (nI a) = 3 := by unfold fillT; rw [if_pos h, if_neg ha, if_neg (fun z => hcr (hrw.symm.trans z))]
        refine jl_catch (A0 := lA Rf oa) (run_VX hC (cJ_X8_fillX3 l G d0 mi Rf ja M E j a hj hI.u21 (by omega) ha0 ha1 hcr hl9) (As := [.int (nI j), .int (nI a)]) (rest := [.int 0, .ref oa]) rfl rfl ml_L_33 im_X8_fill se_X8_fill ini_X8 cd_X8_fill ⟨rfl, na_X8_fill⟩ jT_blind (hW.recv hK (show jV M 8 0 from rfl) rfl) (jT_at hX hT9 hRf hW va_S.rf) hl.1 (Nat.le_of_ble_eq_true rfl) ⟨Nat.le_of_ble_eq_true rfl, Nat.le_of_ble_eq_true rfl⟩ ⟨by show 0 + 1 ≤ 1; omega, by show 0 + 6 ≤ 6; omega⟩ rfl dL_fill_5) va_S.rf (fun q h => Or.inl h) hC.2.2.2.1 [⟨0, 10, 13, 36⟩, ⟨0, 10, 17, 13⟩] ⟨0, 10, 21, 15⟩ [] htab (fun z hz => by simp only [List.mem_cons, List.not_mem_nil, or_false] at hz; rcases hz with rfl | rfl; all_goals first | exact Or.inr ⟨by decide, _, hC.2.2.2.2 _ cl_L_36, hN.2.2⟩ | exact Or.inr ⟨by decide, _, hC.2.2.2.2 _ cl_L_13, hN.1⟩) (by decide) (by decide) (hC.2.2.2.2 _ cl_L_15) (va_Nw.use rfl (hT9.2.1 (xISE, xISE) (by decide))) (fun q H locs hz hk hS => ?_)
        have hW := hW.kept (H1 := H) (fun q hq _ => hk q hq)
        have hO : oC G oa v H := va_at.kept hO (hk _ (va_at.lt hO))
        have hF : fillF M (nI j) (nI a) = thr M 3 := by unfold fillF; rw [if_neg (by rw [hT]; decide), hT]
        refine lv_astore (lv' := [(4, .ref q), (0, .ref (ja 8 0)), (1, .int (nI j)), (2, .int (nI a)), (3, .ref oa)]) hx hb dL_fill_21 hl (by decide) rfl (fun ls hl => ?_)
        refine lv_iconst (v := 3) hx hb dL_fill_23 (by decide) ?_
        subst hQ
        refine rt_qi (((ja, E), v) : JE × Int64) hx hb hr hlk hS ⟨hT.symm, fun z => by rw [hT] at z; exact absurd z (by decide), rfl, by rw [hF]; exact hCE.set rfl, by rw [hF]; exact (hI.set rfl).Bm (by omega)⟩ (fun t9 ht9 _ => ?_) (by show 0 + 1 ≤ 1; omega) (by show 0 + 6 ≤ 6; omega) dL_fill_24
        show WJ G d0 Rf _ _ _ t9.heap ∧ oC G oa _ t9.heap
        rw [ht9, hF]
        exact ⟨hW.gh thr_lk, hO⟩
  · have hT : fillT M x y = 1 := by unfold fillT; rw [if_neg h]
    have hno : inB x (nI (nT M)) = false := by simpa using h
    refine jl_catch (A0 := lA Rf oa) (run_VX hC (cJ_X8_fillX1 l G d0 mi Rf ja M E x y hno hl9) (As := [.int x, .int y]) (rest := [.int 0, .ref oa]) rfl rfl ml_L_33 im_X8_fill se_X8_fill ini_X8 cd_X8_fill ⟨rfl, na_X8_fill⟩ jT_blind (hW.recv hK (show jV M 8 0 from rfl) rfl) (jT_at hX hT9 hRf hW va_S.rf) hl.1 (Nat.le_of_ble_eq_true rfl) ⟨Nat.le_of_ble_eq_true rfl, Nat.le_of_ble_eq_true rfl⟩ ⟨by show 0 + 1 ≤ 1; omega, by show 0 + 6 ≤ 6; omega⟩ rfl dL_fill_5) va_S.rf (fun q h => Or.inl h) hC.2.2.2.1 [] ⟨0, 10, 13, 36⟩ [⟨0, 10, 17, 13⟩, ⟨0, 10, 21, 15⟩] htab (fun z hz => nomatch hz) (by decide) (by decide) (hC.2.2.2.2 _ cl_L_36) (va_Nw.use rfl (hT9.2.1 (xIOE, xIOE) (by decide))) (fun q H locs hz hk hS => ?_)
    have hW := hW.kept (H1 := H) (fun q hq _ => hk q hq)
    have hO : oC G oa v H := va_at.kept hO (hk _ (va_at.lt hO))
    have hF : fillF M x y = thr M 1 := by unfold fillF; rw [if_neg (by rw [hT]; decide), hT]
    refine lv_astore (lv' := [(4, .ref q), (0, .ref (ja 8 0)), (1, .int x), (2, .int y), (3, .ref oa)]) hx hb dL_fill_13 hl (by decide) rfl (fun ls hl => ?_)
    refine lv_iconst (v := 1) hx hb dL_fill_15 (by decide) ?_
    subst hQ
    refine rt_qi (((ja, E), v) : JE × Int64) hx hb hr hlk hS ⟨hT.symm, fun z => by rw [hT] at z; exact absurd z (by decide), rfl, by rw [hF]; exact hCE.set rfl, by rw [hF]; exact (hI.set rfl).Bm (by omega)⟩ (fun t9 ht9 _ => ?_) (by show 0 + 1 ≤ 1; omega) (by show 0 + 6 ≤ 6; omega) dL_fill_16
    show WJ G d0 Rf _ _ _ t9.heap ∧ oC G oa _ t9.heap
    rw [ht9, hF]
    exact ⟨hW.gh thr_lk, hO⟩
set_option maxHeartbeats 4000000 in
set_option maxRecDepth 100000 in
theorem lL_giveUp (l : Launch) (G : gG) (d0 mi : Nat) (Rf : Nat → Prop) (ja : Nat → Nat → Nat) (M : MS) (E : ES) (oa : Nat) (v : Int64) (x : Int32) (y : Int32) (B : Nat) (hI : INV B M) (hCE : CE M E) (hB : B < 100000) (hRo : Rf oa) (hl9 : l.stackTraces = false) : Met l yL_giveUp (Cond.codeWith yL_giveUp cL_giveUp 5 (some .int) [(0, 10, 13, 36), (0, 10, 17, 15)] :: BIG) (rmL 12 1 6) (va_Pc [.ref (ja 8 0), .int x, .int y, .ref oa] (lJ G d0 mi Rf ja M E oa v)) (wQ G d0 Rf ja B oa (gvT M x y) (gvR M x y) (gvF M x y)) 1 6 (lA Rf oa) := by
  refine st_H (own := RL) (by decide +kernel) rfl (Nat.le_of_ble_eq_true rfl) ?_
  intro p e s m below meth c ls args Q hQ hC hr hlk htab hl hP
  obtain ⟨⟨⟨hW, hX, hRf⟩, hT9⟩, hO, hN⟩ := hP
  have hK := hX.1
  have hx := hC.1
  have hb := hC.2.1
  have hl : lv_has ls 5 [(0, .ref (ja 8 0)), (1, .int x), (2, .int y), (3, .ref oa)] := hl
  have h16 := hW.cnt.T16
  have h6 := hW.cnt.R6
  have h10 := hW.cnt.O10
  have h3 := hW.cnt.S3
  refine lv_aload_n hx hb dL_giveUp_0 rfl (lv_at hl 3 rfl) ?_
  refine lv_iconst (v := 0) hx hb dL_giveUp_1 (by decide) ?_
  refine lv_aload_n hx hb dL_giveUp_2 rfl (lv_at hl 0 rfl) ?_
  refine lv_iload_n hx hb dL_giveUp_3 rfl (lv_at hl 1 rfl) ?_
  refine lv_iload_n hx hb dL_giveUp_4 rfl (lv_at hl 2 rfl) ?_
  by_cases h : lnB M x y = true
  · obtain ⟨jo, jl, hjo, hjl, rfl, rfl⟩ := lnB_of hW.cnt h
    have hL3 := hW.cnt.L3 (o := jo) (by omega)
    have eo : ix (nI jo) = jo := ix_nI (by omega)
    have el : ix (nI jl) = jl := ix_nI (by omega)
    have hv2 : VL M (3 * jo + jl) = true := VL_ok hjo hjl hL3
    have hK30 := VL_lt hW.cnt hv2
    by_cases h14 : M 14 (3 * jo + jl) = -1
    · have hT : gvT M (nI jo) (nI jl) = 2 := by unfold gvT; rw [if_pos h, eo, el, if_pos h14]
      refine jl_catch (A0 := lA Rf oa) (run_VX hC (cJ_X8_giveUpX2 l G d0 mi Rf ja M E jo jl hjo hjl h14 hl9) (As := [.int (nI jo), .int (nI jl)]) (rest := [.int 0, .ref oa]) rfl rfl ml_L_48 im_X8_giveUp se_X8_giveUp ini_X8 cd_X8_giveUp ⟨rfl, na_X8_giveUp⟩ jT_blind (hW.recv hK (show jV M 8 0 from rfl) rfl) (jT_at hX hT9 hRf hW va_S.rf) hl.1 (Nat.le_of_ble_eq_true rfl) ⟨Nat.le_of_ble_eq_true rfl, Nat.le_of_ble_eq_true rfl⟩ ⟨by show 0 + 1 ≤ 1; omega, by show 0 + 6 ≤ 6; omega⟩ rfl dL_giveUp_5) va_S.rf (fun q h => Or.inl h) hC.2.2.2.1 [⟨0, 10, 13, 36⟩] ⟨0, 10, 17, 15⟩ [] htab (fun z hz => by simp only [List.mem_cons, List.not_mem_nil, or_false] at hz; rcases hz with rfl; all_goals first | exact Or.inr ⟨by decide, _, hC.2.2.2.2 _ cl_L_36, hN.2.2⟩) (by decide) (by decide) (hC.2.2.2.2 _ cl_L_15) (va_Nw.use rfl (hT9.2.1 (xISE, xISE) (by decide))) (fun q H locs hz hk hS => ?_)
      have hW := hW.kept (H1 := H) (fun q hq _ => hk q hq)
      have hO : oC G oa v H := va_at.kept hO (hk _ (va_at.lt hO))
      have hF : gvF M (nI jo) (nI jl) = thr M 2 := by unfold gvF; rw [if_neg (by rw [hT]; decide), hT]
      refine lv_astore (lv' := [(4, .ref q), (0, .ref (ja 8 0)), (1, .int (nI jo)), (2, .int (nI jl)), (3, .ref oa)]) hx hb dL_giveUp_17 hl (by decide) rfl (fun ls hl => ?_)
      refine lv_iconst (v := 2) hx hb dL_giveUp_19 (by decide) ?_
      subst hQ
      refine rt_qi (((ja, E), v) : JE × Int64) hx hb hr hlk hS ⟨hT.symm, fun z => by rw [hT] at z; exact absurd z (by decide), rfl, by rw [hF]; exact hCE.set rfl, by rw [hF]; exact (hI.set rfl).Bm (by omega)⟩ (fun t9 ht9 _ => ?_) (by show 0 + 1 ≤ 1; omega) (by show 0 + 6 ≤ 6; omega) dL_giveUp_20
      show WJ G d0 Rf _ _ _ t9.heap ∧ oC G oa _ t9.heap
      rw [ht9, hF]
      exact ⟨hW.gh thr_lk, hO⟩
    · have hT : gvT M (nI jo) (nI jl) = 0 := by unfold gvT; rw [if_pos h, eo, el, if_neg h14]
      obtain ⟨s0, c9, hs0, es0, -⟩ := ((hI.f.2.2.2.1 _ hv2).2.2).resolve_left h14
      have hlk9 := gv_lk (M := M) (o := jo) (k := jl) hI.u22 (by omega) (by omega) hT
      refine va_calli (run_V hC (cJ_X8_giveUp l G d0 mi Rf ja M E jo jl s0 hs0 hjo hjl es0 hI.u22 ((hCE.2.2.1 s0 hs0).2.1 _ hv2 es0) (hCE.2.2.1.n hI.c hs0)) (As := [.int (nI jo), .int (nI jl)]) (rest := [.int 0, .ref oa]) rfl rfl ml_L_48 im_X8_giveUp se_X8_giveUp ini_X8 cd_X8_giveUp ⟨rfl, na_X8_giveUp⟩ jB_blind (hW.recv hK (show jV M 8 0 from rfl) rfl) (jB_at hX hRf hW va_S.rf) hl.1 (Nat.le_of_ble_eq_true rfl) ⟨Nat.le_of_ble_eq_true rfl, Nat.le_of_ble_eq_true rfl⟩ ⟨by show 0 + 0 ≤ 1; omega, by show 0 + 0 ≤ 6; omega⟩ rfl dL_giveUp_5) va_S.rf (fun _ _ h => h) (fun _ h => h) (fun r u t H1 locs1 ht _ hp hB hz1 _ hS => ?_)
      rw [ht] at hB
      have hO : oC G oa v H1 := va_at.kept hO (hS.2.1 _ (va_at.lt hO) (fun z => z hRo))
      have hp1 := hp.1
      have hW := WJ.gh (M' := gvF M (nI jo) (nI jl)) hB (fun k hk => by rw [gv_lkC]; exact hlk9 k (gh_ne hk rfl))
      refine lv_i2l hx hb dL_giveUp_8 rfl ?_
      refine r2_lst hC hK (A := lA Rf oa) hO (S_lA hS) (Or.inr rfl) dL_giveUp_9 (fun H locs hO hz hoq hS => ?_)
      have hW := hW.kept (H1 := H) (fun q hq hnR => hoq q (fun e9 => hnR (by rw [e9]; exact hRo)))
      refine lv_goto (tgt := 21) hx hb dL_giveUp_10 (by decide) ?_
      refine lv_iconst (v := 0) hx hb dL_giveUp_21 (by decide) ?_
      subst hQ
      exact rt_qi (((ja, u), r.toInt64) : JE × Int64) hx hb hr hlk hS ⟨hT.symm, fun _ => congrArg Int32.toInt64 (hp1.trans (by unfold gvR; rw [if_pos hT, eo, el, es0])), rfl, (CE_gv hCE hI hs0 hK30 es0 hp.2).cg (fun k hk => hlk9 k (fun q => by rw [q] at hk; cases hk)), ((INV_gv hI hK30).cg (fun k hk => hlk9 k (inv_ne hk rfl))).Bm (by omega)⟩ (fun t9 ht9 _ => by show WJ G d0 Rf _ _ _ t9.heap ∧ oC G oa _ t9.heap; rw [ht9]; exact ⟨hW, hO⟩) (by show 0 + 0 ≤ 1; omega) (by show 0 + 0 ≤ 6; omega) dL_giveUp_22
  · have hT : gvT M x y = 1 := by unfold gvT; rw [if_neg h]
    have hno : lnB M x y = false := by simpa using h
    refine jl_catch (A0 := lA Rf oa) (run_VX hC (cJ_X8_giveUpX1 l G d0 mi Rf ja M E x y hno hl9) (As := [.int x, .int y]) (rest := [.int 0, .ref oa]) rfl rfl ml_L_48 im_X8_giveUp se_X8_giveUp ini_X8 cd_X8_giveUp ⟨rfl, na_X8_giveUp⟩ jT_blind (hW.recv hK (show jV M 8 0 from rfl) rfl) (jT_at hX hT9 hRf hW va_S.rf) hl.1 (Nat.le_of_ble_eq_true rfl) ⟨Nat.le_of_ble_eq_true rfl, Nat.le_of_ble_eq_true rfl⟩ ⟨by show 0 + 1 ≤ 1; omega, by show 0 + 6 ≤ 6; omega⟩ rfl dL_giveUp_5) va_S.rf (fun q h => Or.inl h) hC.2.2.2.1 [] ⟨0, 10, 13, 36⟩ [⟨0, 10, 17, 15⟩] htab (fun z hz => nomatch hz) (by decide) (by decide) (hC.2.2.2.2 _ cl_L_36) (va_Nw.use rfl (hT9.2.1 (xIOE, xIOE) (by decide))) (fun q H locs hz hk hS => ?_)
    have hW := hW.kept (H1 := H) (fun q hq _ => hk q hq)
    have hO : oC G oa v H := va_at.kept hO (hk _ (va_at.lt hO))
    have hF : gvF M x y = thr M 1 := by unfold gvF; rw [if_neg (by rw [hT]; decide), hT]
    refine lv_astore (lv' := [(4, .ref q), (0, .ref (ja 8 0)), (1, .int x), (2, .int y), (3, .ref oa)]) hx hb dL_giveUp_13 hl (by decide) rfl (fun ls hl => ?_)
    refine lv_iconst (v := 1) hx hb dL_giveUp_15 (by decide) ?_
    subst hQ
    refine rt_qi (((ja, E), v) : JE × Int64) hx hb hr hlk hS ⟨hT.symm, fun z => by rw [hT] at z; exact absurd z (by decide), rfl, by rw [hF]; exact hCE.set rfl, by rw [hF]; exact (hI.set rfl).Bm (by omega)⟩ (fun t9 ht9 _ => ?_) (by show 0 + 1 ≤ 1; omega) (by show 0 + 6 ≤ 6; omega) dL_giveUp_16
    show WJ G d0 Rf _ _ _ t9.heap ∧ oC G oa _ t9.heap
    rw [ht9, hF]
    exact ⟨hW.gh thr_lk, hO⟩
set_option maxHeartbeats 4000000 in
set_option maxRecDepth 100000 in
theorem lL_claim (l : Launch) (G : gG) (d0 mi : Nat) (Rf : Nat → Prop) (ja : Nat → Nat → Nat) (M : MS) (E : ES) (oa : Nat) (v : Int64) (x : Int32) (y : Int32) (z9 : Int32) (B : Nat) (hI : INV B M) (hCE : CE M E) (hB : B < 100000) (hRo : Rf oa) (hl9 : l.stackTraces = false) : Met l yL_claim (Cond.codeWith yL_claim cL_claim 6 (some .int) [(0, 12, 15, 36), (0, 12, 19, 15)] :: BIG) (rmL 12 1 67) (va_Pc [.ref (ja 8 0), .int x, .int y, .int z9, .ref oa] (lJ G d0 mi Rf ja M E oa v)) (wQ G d0 Rf ja B oa (clmT M x y z9) (clmR M x y z9) (clmF M x y z9)) 1 67 (lA Rf oa) := by
  refine st_H (own := RL) (by decide +kernel) rfl (Nat.le_of_ble_eq_true rfl) ?_
  intro p e s m below meth c ls args Q hQ hC hr hlk htab hl hP
  obtain ⟨⟨⟨hW, hX, hRf⟩, hT9⟩, hO, hN⟩ := hP
  have hK := hX.1
  have hx := hC.1
  have hb := hC.2.1
  have hl : lv_has ls 6 [(0, .ref (ja 8 0)), (1, .int x), (2, .int y), (3, .int z9), (4, .ref oa)] := hl
  have h16 := hW.cnt.T16
  have h6 := hW.cnt.R6
  have h10 := hW.cnt.O10
  have h3 := hW.cnt.S3
  refine lv_aload hx hb dL_claim_0 (lv_at hl 4 rfl) ?_
  refine lv_iconst (v := 0) hx hb dL_claim_2 (by decide) ?_
  refine lv_aload_n hx hb dL_claim_3 rfl (lv_at hl 0 rfl) ?_
  refine lv_iload_n hx hb dL_claim_4 rfl (lv_at hl 1 rfl) ?_
  refine lv_iload_n hx hb dL_claim_5 rfl (lv_at hl 2 rfl) ?_
  refine lv_iload_n hx hb dL_claim_6 rfl (lv_at hl 3 rfl) ?_
  by_cases hs : inB x (nI (nS M)) = true
  · obtain ⟨s0, hs0, rfl⟩ := inB_of (n := nS M) (by omega) hs
    by_cases h : lnB M y z9 = true
    · obtain ⟨jo, jl, hjo, hjl, rfl, rfl⟩ := lnB_of hW.cnt h
      have hL3 := hW.cnt.L3 (o := jo) (by omega)
      have eo : ix (nI jo) = jo := ix_nI (by omega)
      have el : ix (nI jl) = jl := ix_nI (by omega)
      have hv2 : VL M (3 * jo + jl) = true := VL_ok hjo hjl hL3
      have hK30 := VL_lt hW.cnt hv2
      by_cases h14 : M 14 (3 * jo + jl) = -1
      · have hT : clmT M (nI s0) (nI jo) (nI jl) = 0 := by unfold clmT; rw [if_pos ⟨hs, h⟩, eo, el, if_pos h14]
        have hlk9 := clm_lk (M := M) (s := s0) (o := jo) (k := jl) (by omega) (by omega) (by omega) hT
        have hce9 : CE (clmF M (nI s0) (nI jo) (nI jl)) (chE E (17 + s0) (eN E (17 + s0) + 1) (fup (eL E (17 + s0)) (eN E (17 + s0)) (3 * jo + jl)) (capN (eC E (17 + s0)) (eN E (17 + s0)))) := (CE_clm hCE hI (by omega) hs0 hv2 h14).cg (fun k hk => hlk9 k (fun q => by rw [q] at hk; cases hk))
        have hin9 : INV (B + 1) (clmF M (nI s0) (nI jo) (nI jl)) := (INV_clm hI (by omega) hs0 hv2 h14).cg (fun k hk => hlk9 k (inv_ne hk rfl))
        have hs9 : nS (clmF M (nI s0) (nI jo) (nI jl)) = nS M := by unfold nS; rw [hlk9 4 (by decide)]; rfl
        refine va_calli (run_V hC (cJ_X8_claim l G d0 mi Rf ja M E s0 jo jl hs0 hjo hjl h14 (hCE.2.2.1.lt hI hs0 hv2 h14)) (As := [.int (nI s0), .int (nI jo), .int (nI jl)]) (rest := [.int 0, .ref oa]) rfl rfl ml_L_45 im_X8_claim se_X8_claim ini_X8 cd_X8_claim ⟨rfl, na_X8_claim⟩ jB_blind (hW.recv hK (show jV M 8 0 from rfl) rfl) (jB_at hX hRf hW va_S.rf) hl.1 (Nat.le_of_ble_eq_true rfl) ⟨Nat.le_of_ble_eq_true rfl, Nat.le_of_ble_eq_true rfl⟩ ⟨by show 0 + 1 ≤ 1; omega, by show 0 + 67 ≤ 67; omega⟩ rfl dL_claim_7) va_S.rf (fun _ _ h => h) (fun _ h => h) (fun r u t H1 locs1 ht _ hp hB hz1 _ hS => ?_)
        rw [ht] at hB
        have hO : oC G oa v H1 := va_at.kept hO (hS.2.1 _ (va_at.lt hO) (fun z => z hRo))
        have hp1 := hp.1
        have hW := WJ.gh (M' := clmF M (nI s0) (nI jo) (nI jl)) hB (fun k hk => (hlk9 k (gh_ne hk rfl)).trans (cl_gh k hk))
        refine lv_i2l hx hb dL_claim_10 rfl ?_
        refine r2_lst hC hK (A := lA Rf oa) hO (S_lA hS) (Or.inr rfl) dL_claim_11 (fun H locs hO hz hoq hS => ?_)
        have hW := hW.kept (H1 := H) (fun q hq hnR => hoq q (fun e9 => hnR (by rw [e9]; exact hRo)))
        refine lv_goto (tgt := 23) hx hb dL_claim_12 (by decide) ?_
        refine lv_iconst (v := 0) hx hb dL_claim_23 (by decide) ?_
        subst hQ
        exact rt_qi (((ja, chE E (17 + s0) (eN E (17 + s0) + 1) (fup (eL E (17 + s0)) (eN E (17 + s0)) (3 * jo + jl)) (capN (eC E (17 + s0)) (eN E (17 + s0)))), r.toInt64) : JE × Int64) hx hb hr hlk hS ⟨hT.symm, fun _ => congrArg Int32.toInt64 (hp1.trans (by unfold clmR; rw [if_pos hT, hce9.2.2.1.cnt hin9 (by rw [hs9]; exact hs0), (chE_eq _).1, if_pos rfl])), rfl, hce9, hin9⟩ (fun t9 ht9 _ => by show WJ G d0 Rf _ _ _ t9.heap ∧ oC G oa _ t9.heap; rw [ht9]; exact ⟨hW, hO⟩) (by show 0 + 1 ≤ 1; omega) (by show 0 + 67 ≤ 67; omega) dL_claim_24
      · have hT : clmT M (nI s0) (nI jo) (nI jl) = 2 := by unfold clmT; rw [if_pos ⟨hs, h⟩, eo, el, if_neg h14]
        refine jl_catch (A0 := lA Rf oa) (run_VX hC (cJ_X8_claimX3 l G d0 mi Rf ja M E s0 jo jl hs0 hjo hjl h14 hl9) (As := [.int (nI s0), .int (nI jo), .int (nI jl)]) (rest := [.int 0, .ref oa]) rfl rfl ml_L_45 im_X8_claim se_X8_claim ini_X8 cd_X8_claim ⟨rfl, na_X8_claim⟩ jT_blind (hW.recv hK (show jV M 8 0 from rfl) rfl) (jT_at hX hT9 hRf hW va_S.rf) hl.1 (Nat.le_of_ble_eq_true rfl) ⟨Nat.le_of_ble_eq_true rfl, Nat.le_of_ble_eq_true rfl⟩ ⟨by show 0 + 1 ≤ 1; omega, by show 0 + 6 ≤ 67; omega⟩ rfl dL_claim_7) va_S.rf (fun q h => Or.inl h) hC.2.2.2.1 [⟨0, 12, 15, 36⟩] ⟨0, 12, 19, 15⟩ [] htab (fun z hz => by simp only [List.mem_cons, List.not_mem_nil, or_false] at hz; rcases hz with rfl; all_goals first | exact Or.inr ⟨by decide, _, hC.2.2.2.2 _ cl_L_36, hN.2.2⟩) (by decide) (by decide) (hC.2.2.2.2 _ cl_L_15) (va_Nw.use rfl (hT9.2.1 (xISE, xISE) (by decide))) (fun q H locs hz hk hS => ?_)
        have hW := hW.kept (H1 := H) (fun q hq _ => hk q hq)
        have hO : oC G oa v H := va_at.kept hO (hk _ (va_at.lt hO))
        have hF : clmF M (nI s0) (nI jo) (nI jl) = thr M 2 := by unfold clmF; rw [if_neg (by rw [hT]; decide), hT]
        refine lv_astore (lv' := [(5, .ref q), (0, .ref (ja 8 0)), (1, .int (nI s0)), (2, .int (nI jo)), (3, .int (nI jl)), (4, .ref oa)]) hx hb dL_claim_19 hl (by decide) rfl (fun ls hl => ?_)
        refine lv_iconst (v := 2) hx hb dL_claim_21 (by decide) ?_
        subst hQ
        refine rt_qi (((ja, E), v) : JE × Int64) hx hb hr hlk hS ⟨hT.symm, fun z => by rw [hT] at z; exact absurd z (by decide), rfl, by rw [hF]; exact hCE.set rfl, by rw [hF]; exact (hI.set rfl).Bm (by omega)⟩ (fun t9 ht9 _ => ?_) (by show 0 + 1 ≤ 1; omega) (by show 0 + 6 ≤ 67; omega) dL_claim_22
        show WJ G d0 Rf _ _ _ t9.heap ∧ oC G oa _ t9.heap
        rw [ht9, hF]
        exact ⟨hW.gh thr_lk, hO⟩
    · have hT : clmT M (nI s0) y z9 = 1 := by unfold clmT; rw [if_neg (fun w => h w.2)]
      have hno : lnB M y z9 = false := by simpa using h
      refine jl_catch (A0 := lA Rf oa) (run_VX hC (cJ_X8_claimX2 l G d0 mi Rf ja M E s0 y z9 hs0 hno hl9) (As := [.int (nI s0), .int y, .int z9]) (rest := [.int 0, .ref oa]) rfl rfl ml_L_45 im_X8_claim se_X8_claim ini_X8 cd_X8_claim ⟨rfl, na_X8_claim⟩ jT_blind (hW.recv hK (show jV M 8 0 from rfl) rfl) (jT_at hX hT9 hRf hW va_S.rf) hl.1 (Nat.le_of_ble_eq_true rfl) ⟨Nat.le_of_ble_eq_true rfl, Nat.le_of_ble_eq_true rfl⟩ ⟨by show 0 + 1 ≤ 1; omega, by show 0 + 6 ≤ 67; omega⟩ rfl dL_claim_7) va_S.rf (fun q h => Or.inl h) hC.2.2.2.1 [] ⟨0, 12, 15, 36⟩ [⟨0, 12, 19, 15⟩] htab (fun z hz => nomatch hz) (by decide) (by decide) (hC.2.2.2.2 _ cl_L_36) (va_Nw.use rfl (hT9.2.1 (xIOE, xIOE) (by decide))) (fun q H locs hz hk hS => ?_)
      have hW := hW.kept (H1 := H) (fun q hq _ => hk q hq)
      have hO : oC G oa v H := va_at.kept hO (hk _ (va_at.lt hO))
      have hF : clmF M (nI s0) y z9 = thr M 1 := by unfold clmF; rw [if_neg (by rw [hT]; decide), hT]
      refine lv_astore (lv' := [(5, .ref q), (0, .ref (ja 8 0)), (1, .int (nI s0)), (2, .int y), (3, .int z9), (4, .ref oa)]) hx hb dL_claim_15 hl (by decide) rfl (fun ls hl => ?_)
      refine lv_iconst (v := 1) hx hb dL_claim_17 (by decide) ?_
      subst hQ
      refine rt_qi (((ja, E), v) : JE × Int64) hx hb hr hlk hS ⟨hT.symm, fun z => by rw [hT] at z; exact absurd z (by decide), rfl, by rw [hF]; exact hCE.set rfl, by rw [hF]; exact (hI.set rfl).Bm (by omega)⟩ (fun t9 ht9 _ => ?_) (by show 0 + 1 ≤ 1; omega) (by show 0 + 6 ≤ 67; omega) dL_claim_18
      show WJ G d0 Rf _ _ _ t9.heap ∧ oC G oa _ t9.heap
      rw [ht9, hF]
      exact ⟨hW.gh thr_lk, hO⟩
  · have hT : clmT M x y z9 = 1 := by unfold clmT; rw [if_neg (fun w => hs w.1)]
    have hno : inB x (nI (nS M)) = false := by simpa using hs
    refine jl_catch (A0 := lA Rf oa) (run_VX hC (cJ_X8_claimX1 l G d0 mi Rf ja M E x y z9 hno hl9) (As := [.int x, .int y, .int z9]) (rest := [.int 0, .ref oa]) rfl rfl ml_L_45 im_X8_claim se_X8_claim ini_X8 cd_X8_claim ⟨rfl, na_X8_claim⟩ jT_blind (hW.recv hK (show jV M 8 0 from rfl) rfl) (jT_at hX hT9 hRf hW va_S.rf) hl.1 (Nat.le_of_ble_eq_true rfl) ⟨Nat.le_of_ble_eq_true rfl, Nat.le_of_ble_eq_true rfl⟩ ⟨by show 0 + 1 ≤ 1; omega, by show 0 + 6 ≤ 67; omega⟩ rfl dL_claim_7) va_S.rf (fun q h => Or.inl h) hC.2.2.2.1 [] ⟨0, 12, 15, 36⟩ [⟨0, 12, 19, 15⟩] htab (fun z hz => nomatch hz) (by decide) (by decide) (hC.2.2.2.2 _ cl_L_36) (va_Nw.use rfl (hT9.2.1 (xIOE, xIOE) (by decide))) (fun q H locs hz hk hS => ?_)
    have hW := hW.kept (H1 := H) (fun q hq _ => hk q hq)
    have hO : oC G oa v H := va_at.kept hO (hk _ (va_at.lt hO))
    have hF : clmF M x y z9 = thr M 1 := by unfold clmF; rw [if_neg (by rw [hT]; decide), hT]
    refine lv_astore (lv' := [(5, .ref q), (0, .ref (ja 8 0)), (1, .int x), (2, .int y), (3, .int z9), (4, .ref oa)]) hx hb dL_claim_15 hl (by decide) rfl (fun ls hl => ?_)
    refine lv_iconst (v := 1) hx hb dL_claim_17 (by decide) ?_
    subst hQ
    refine rt_qi (((ja, E), v) : JE × Int64) hx hb hr hlk hS ⟨hT.symm, fun z => by rw [hT] at z; exact absurd z (by decide), rfl, by rw [hF]; exact hCE.set rfl, by rw [hF]; exact (hI.set rfl).Bm (by omega)⟩ (fun t9 ht9 _ => ?_) (by show 0 + 1 ≤ 1; omega) (by show 0 + 6 ≤ 67; omega) dL_claim_18
    show WJ G d0 Rf _ _ _ t9.heap ∧ oC G oa _ t9.heap
    rw [ht9, hF]
    exact ⟨hW.gh thr_lk, hO⟩
set_option maxHeartbeats 4000000 in
set_option maxRecDepth 100000 in
theorem lL_addOrder (l : Launch) (G : gG) (d0 mi : Nat) (Rf : Nat → Prop) (ja : Nat → Nat → Nat) (M : MS) (E : ES) (oa : Nat) (v : Int64)  (B : Nat) (hI : INV B M) (hCE : CE M E) (hB : B < 100000) (hRo : Rf oa) (hl9 : l.stackTraces = false) : Met l yL_addOrder (Cond.codeWith yL_addOrder cL_addOrder 3 (some .int) [(0, 8, 11, 15)] :: BIG) (rmL 12 3 72) (va_Pc [.ref (ja 8 0), .ref oa] (lJ G d0 mi Rf ja M E oa v)) (wQ G d0 Rf ja B oa (ordT M) (ordR M) (ordF M)) 3 72 (lA Rf oa) := by
  refine st_H (own := RL) (by decide +kernel) rfl (Nat.le_of_ble_eq_true rfl) ?_
  intro p e s m below meth c ls args Q hQ hC hr hlk htab hl hP
  obtain ⟨⟨⟨hW, hX, hRf⟩, hT9⟩, hO, hN⟩ := hP
  have hK := hX.1
  have hx := hC.1
  have hb := hC.2.1
  have hl : lv_has ls 3 [(0, .ref (ja 8 0)), (1, .ref oa)] := hl
  have h16 := hW.cnt.T16
  have h6 := hW.cnt.R6
  have h10 := hW.cnt.O10
  have h3 := hW.cnt.S3
  refine lv_aload_n hx hb dL_addOrder_0 rfl (lv_at hl 1 rfl) ?_
  refine lv_iconst (v := 0) hx hb dL_addOrder_1 (by decide) ?_
  refine lv_aload_n hx hb dL_addOrder_2 rfl (lv_at hl 0 rfl) ?_
  by_cases h : nO M = 10
  · have hT : ordT M = 1 := if_pos h
    refine jl_catch (A0 := lA Rf oa) (run_VX hC (cJ_X8_addOrderX l G d0 mi Rf ja M E h hl9) (As := []) (rest := [.int 0, .ref oa]) rfl rfl ml_L_38 im_X8_addOrder se_X8_addOrder ini_X8 cd_X8_addOrder ⟨rfl, na_X8_addOrder⟩ jT_blind (hW.recv hK (show jV M 8 0 from rfl) rfl) (jT_at hX hT9 hRf hW va_S.rf) hl.1 (Nat.le_of_ble_eq_true rfl) ⟨Nat.le_of_ble_eq_true rfl, Nat.le_of_ble_eq_true rfl⟩ ⟨by show 0 + 1 ≤ 3; omega, by show 0 + 6 ≤ 72; omega⟩ rfl dL_addOrder_3) va_S.rf (fun q h => Or.inl h) hC.2.2.2.1 [] ⟨0, 8, 11, 15⟩ [] htab (fun z hz => nomatch hz) (by decide) (by decide) (hC.2.2.2.2 _ cl_L_15) (va_Nw.use rfl (hT9.2.1 (xISE, xISE) (by decide))) (fun q H locs hz hk hS => ?_)
    have hW := hW.kept (H1 := H) (fun q hq _ => hk q hq)
    have hO : oC G oa v H := va_at.kept hO (hk _ (va_at.lt hO))
    have hF : ordF M = thr M 1 := by unfold ordF; rw [if_neg (by rw [hT]; decide), hT]
    refine lv_astore_n (lv' := [(2, .ref q), (0, .ref (ja 8 0)), (1, .ref oa)]) hx hb dL_addOrder_11 rfl hl (by decide) rfl (fun ls hl => ?_)
    refine lv_iconst (v := 1) hx hb dL_addOrder_12 (by decide) ?_
    subst hQ
    refine rt_qi (((ja, E), v) : JE × Int64) hx hb hr hlk hS ⟨hT.symm, fun z => by rw [hT] at z; exact absurd z (by decide), rfl, by rw [hF]; exact hCE.set rfl, by rw [hF]; exact (hI.set rfl).Bm (by omega)⟩ (fun t9 ht9 _ => ?_) (by show 0 + 1 ≤ 3; omega) (by show 0 + 6 ≤ 72; omega) dL_addOrder_13
    show WJ G d0 Rf _ _ _ t9.heap ∧ oC G oa _ t9.heap
    rw [ht9, hF]
    exact ⟨hW.gh thr_lk, hO⟩
  · have hT : ordT M = 0 := if_neg h
    refine va_calli (run_V hC (cJ_X8_addOrder l G d0 mi Rf ja M E (by omega)) (As := []) (rest := [.int 0, .ref oa]) rfl rfl ml_L_38 im_X8_addOrder se_X8_addOrder ini_X8 cd_X8_addOrder ⟨rfl, na_X8_addOrder⟩ jB_blind (hW.recv hK (show jV M 8 0 from rfl) rfl) (jB_at hX hRf hW va_S.rf) hl.1 (Nat.le_of_ble_eq_true rfl) ⟨Nat.le_of_ble_eq_true rfl, Nat.le_of_ble_eq_true rfl⟩ ⟨by show 0 + 3 ≤ 3; omega, by show 0 + 72 ≤ 72; omega⟩ rfl dL_addOrder_3) va_S.rf (fun _ _ h => h) (fun _ h => h) (fun r u t H1 locs1 ht _ hp hB hz1 _ hS => ?_)
    rw [ht] at hB
    have hO : oC G oa v H1 := va_at.kept hO (hS.2.1 _ (va_at.lt hO) (fun z => z hRo))
    obtain ⟨ja9, E9⟩ := u
    obtain ⟨hp1, hp2, hp3⟩ := hp
    dsimp only at hp2 hp3 hB
    subst hp3
    have hW := WJ.gh (M' := ordF M) hB (fun k hk => ord_lk hT k (gh_ne hk rfl))
    refine lv_i2l hx hb dL_addOrder_6 rfl ?_
    refine r2_lst hC hK (A := lA Rf oa) hO (S_lA hS) (Or.inr rfl) dL_addOrder_7 (fun H locs hO hz hoq hS => ?_)
    have hW := hW.kept (H1 := H) (fun q hq hnR => hoq q (fun e9 => hnR (by rw [e9]; exact hRo)))
    refine lv_goto (tgt := 14) hx hb dL_addOrder_8 (by decide) ?_
    refine lv_iconst (v := 0) hx hb dL_addOrder_14 (by decide) ?_
    subst hQ
    exact rt_qi (((ja9, orE M E), r.toInt64) : JE × Int64) hx hb hr hlk hS ⟨hT.symm, fun _ => congrArg Int32.toInt64 (hp1.trans (by unfold ordR; rw [if_pos hT])), hp2, (CE_ord hCE hI (by omega)).cg (fun k hk => ord_lk hT k (fun q => by rw [q] at hk; cases hk)), ((INV_ord hI (by omega)).cg (fun k hk => ord_lk hT k (inv_ne hk rfl))).Bm (by omega)⟩ (fun t9 ht9 _ => by show WJ G d0 Rf _ _ _ t9.heap ∧ oC G oa _ t9.heap; rw [ht9]; exact ⟨hW, hO⟩) (by show 0 + 3 ≤ 3; omega) (by show 0 + 72 ≤ 72; omega) dL_addOrder_15
set_option maxHeartbeats 4000000 in
set_option maxRecDepth 100000 in
theorem lL_addStation (l : Launch) (G : gG) (d0 mi : Nat) (Rf : Nat → Prop) (ja : Nat → Nat → Nat) (M : MS) (E : ES) (oa : Nat) (v : Int64) (x : Int32) (B : Nat) (hI : INV B M) (hCE : CE M E) (hB : B < 100000) (hRo : Rf oa) (hl9 : l.stackTraces = false) : Met l yL_addStation (Cond.codeWith yL_addStation cL_addStation 4 (some .int) [(0, 9, 12, 13), (0, 9, 15, 15)] :: BIG) (rmL 12 3 73) (va_Pc [.ref (ja 8 0), .int x, .ref oa] (lJ G d0 mi Rf ja M E oa v)) (wQ G d0 Rf ja B oa (stnT M x) (stnR M x) (stnF M x)) 3 73 (lA Rf oa) := by
  refine st_H (own := RL) (by decide +kernel) rfl (Nat.le_of_ble_eq_true rfl) ?_
  intro p e s m below meth c ls args Q hQ hC hr hlk htab hl hP
  obtain ⟨⟨⟨hW, hX, hRf⟩, hT9⟩, hO, hN⟩ := hP
  have hK := hX.1
  have hx := hC.1
  have hb := hC.2.1
  have hl : lv_has ls 4 [(0, .ref (ja 8 0)), (1, .int x), (2, .ref oa)] := hl
  have h16 := hW.cnt.T16
  have h6 := hW.cnt.R6
  have h10 := hW.cnt.O10
  have h3 := hW.cnt.S3
  refine lv_aload_n hx hb dL_addStation_0 rfl (lv_at hl 2 rfl) ?_
  refine lv_iconst (v := 0) hx hb dL_addStation_1 (by decide) ?_
  refine lv_aload_n hx hb dL_addStation_2 rfl (lv_at hl 0 rfl) ?_
  refine lv_iload_n hx hb dL_addStation_3 rfl (lv_at hl 1 rfl) ?_
  by_cases h : inB x 64 = true
  · obtain ⟨j, hj, rfl⟩ := inB_of (n := 64) (by omega) h
    have ej : ix (nI j) = j := ix_nI (by omega)
    by_cases hc : M 2 j = 0 ∧ stA M (nI j) = none ∧ nS M < 3
    · have hT : stnT M (nI j) = 0 := by unfold stnT; rw [if_pos h, ej, if_pos ⟨hc.1, hc.2.1, by omega⟩]
      refine va_calli (run_V hC (cJ_X8_addStation l G d0 mi Rf ja M E j hj hc.1 hc.2.1 hc.2.2) (As := [.int (nI j)]) (rest := [.int 0, .ref oa]) rfl rfl ml_L_25 im_X8_addStation se_X8_addStation ini_X8 cd_X8_addStation ⟨rfl, na_X8_addStation⟩ jB_blind (hW.recv hK (show jV M 8 0 from rfl) rfl) (jB_at hX hRf hW va_S.rf) hl.1 (Nat.le_of_ble_eq_true rfl) ⟨Nat.le_of_ble_eq_true rfl, Nat.le_of_ble_eq_true rfl⟩ ⟨by show 0 + 3 ≤ 3; omega, by show 0 + 73 ≤ 73; omega⟩ rfl dL_addStation_4) va_S.rf (fun _ _ h => h) (fun _ h => h) (fun r u t H1 locs1 ht _ hp hB hz1 _ hS => ?_)
      rw [ht] at hB
      have hO : oC G oa v H1 := va_at.kept hO (hS.2.1 _ (va_at.lt hO) (fun z => z hRo))
      obtain ⟨ja9, E9⟩ := u
      obtain ⟨hp1, hp2, hp3⟩ := hp
      dsimp only at hp2 hp3 hB
      subst hp3
      have hW := WJ.gh (M' := stnF M (nI j)) hB (fun k hk => stn_lk hT k (gh_ne hk rfl))
      refine lv_i2l hx hb dL_addStation_7 rfl ?_
      refine r2_lst hC hK (A := lA Rf oa) hO (S_lA hS) (Or.inr rfl) dL_addStation_8 (fun H locs hO hz hoq hS => ?_)
      have hW := hW.kept (H1 := H) (fun q hq hnR => hoq q (fun e9 => hnR (by rw [e9]; exact hRo)))
      refine lv_goto (tgt := 18) hx hb dL_addStation_9 (by decide) ?_
      refine lv_iconst (v := 0) hx hb dL_addStation_18 (by decide) ?_
      subst hQ
      exact rt_qi (((ja9, stE M E), r.toInt64) : JE × Int64) hx hb hr hlk hS ⟨hT.symm, fun _ => congrArg Int32.toInt64 (hp1.trans (by unfold stnR; rw [if_pos hT])), hp2, (CE_stn hCE hI hc.2.2).cg (fun k hk => stn_lk hT k (fun q => by rw [q] at hk; cases hk)), ((INV_stn hI hc.2.2 hj).cg (fun k hk => stn_lk hT k (inv_ne hk rfl))).Bm (by omega)⟩ (fun t9 ht9 _ => by show WJ G d0 Rf _ _ _ t9.heap ∧ oC G oa _ t9.heap; rw [ht9]; exact ⟨hW, hO⟩) (by show 0 + 3 ≤ 3; omega) (by show 0 + 73 ≤ 73; omega) dL_addStation_19
    · have hT : stnT M (nI j) = 2 := by unfold stnT; rw [if_pos h, ej, if_neg (fun z => hc ⟨z.1, z.2.1, by have k9 := z.2.2; omega⟩)]
      refine jl_catch (A0 := lA Rf oa) (run_VX hC (cJ_X8_addStationX2 l G d0 mi Rf ja M E j hj hc hl9) (As := [.int (nI j)]) (rest := [.int 0, .ref oa]) rfl rfl ml_L_25 im_X8_addStation se_X8_addStation ini_X8 cd_X8_addStation ⟨rfl, na_X8_addStation⟩ jT_blind (hW.recv hK (show jV M 8 0 from rfl) rfl) (jT_at hX hT9 hRf hW va_S.rf) hl.1 (Nat.le_of_ble_eq_true rfl) ⟨Nat.le_of_ble_eq_true rfl, Nat.le_of_ble_eq_true rfl⟩ ⟨by show 0 + 1 ≤ 3; omega, by show 0 + 6 ≤ 73; omega⟩ rfl dL_addStation_4) va_S.rf (fun q h => Or.inl h) hC.2.2.2.1 [⟨0, 9, 12, 13⟩] ⟨0, 9, 15, 15⟩ [] htab (fun z hz => by simp only [List.mem_cons, List.not_mem_nil, or_false] at hz; rcases hz with rfl; all_goals first | exact Or.inr ⟨by decide, _, hC.2.2.2.2 _ cl_L_13, hN.1⟩) (by decide) (by decide) (hC.2.2.2.2 _ cl_L_15) (va_Nw.use rfl (hT9.2.1 (xISE, xISE) (by decide))) (fun q H locs hz hk hS => ?_)
      have hW := hW.kept (H1 := H) (fun q hq _ => hk q hq)
      have hO : oC G oa v H := va_at.kept hO (hk _ (va_at.lt hO))
      have hF : stnF M (nI j) = thr M 2 := by unfold stnF; rw [if_neg (by rw [hT]; decide), hT]
      refine lv_astore_n (lv' := [(3, .ref q), (0, .ref (ja 8 0)), (1, .int (nI j)), (2, .ref oa)]) hx hb dL_addStation_15 rfl hl (by decide) rfl (fun ls hl => ?_)
      refine lv_iconst (v := 2) hx hb dL_addStation_16 (by decide) ?_
      subst hQ
      refine rt_qi (((ja, E), v) : JE × Int64) hx hb hr hlk hS ⟨hT.symm, fun z => by rw [hT] at z; exact absurd z (by decide), rfl, by rw [hF]; exact hCE.set rfl, by rw [hF]; exact (hI.set rfl).Bm (by omega)⟩ (fun t9 ht9 _ => ?_) (by show 0 + 1 ≤ 3; omega) (by show 0 + 6 ≤ 73; omega) dL_addStation_17
      show WJ G d0 Rf _ _ _ t9.heap ∧ oC G oa _ t9.heap
      rw [ht9, hF]
      exact ⟨hW.gh thr_lk, hO⟩
  · have hT : stnT M x = 1 := by unfold stnT; rw [if_neg h]
    have hno : inB x 64 = false := by simpa using h
    refine jl_catch (A0 := lA Rf oa) (run_VX hC (cJ_X8_addStationX1 l G d0 mi Rf ja M E x hno hl9) (As := [.int x]) (rest := [.int 0, .ref oa]) rfl rfl ml_L_25 im_X8_addStation se_X8_addStation ini_X8 cd_X8_addStation ⟨rfl, na_X8_addStation⟩ jT_blind (hW.recv hK (show jV M 8 0 from rfl) rfl) (jT_at hX hT9 hRf hW va_S.rf) hl.1 (Nat.le_of_ble_eq_true rfl) ⟨Nat.le_of_ble_eq_true rfl, Nat.le_of_ble_eq_true rfl⟩ ⟨by show 0 + 1 ≤ 3; omega, by show 0 + 6 ≤ 73; omega⟩ rfl dL_addStation_4) va_S.rf (fun q h => Or.inl h) hC.2.2.2.1 [] ⟨0, 9, 12, 13⟩ [⟨0, 9, 15, 15⟩] htab (fun z hz => nomatch hz) (by decide) (by decide) (hC.2.2.2.2 _ cl_L_13) (va_Nw.use rfl (hT9.2.1 (xIAE, xIAE) (by decide))) (fun q H locs hz hk hS => ?_)
    have hW := hW.kept (H1 := H) (fun q hq _ => hk q hq)
    have hO : oC G oa v H := va_at.kept hO (hk _ (va_at.lt hO))
    have hF : stnF M x = thr M 1 := by unfold stnF; rw [if_neg (by rw [hT]; decide), hT]
    refine lv_astore_n (lv' := [(3, .ref q), (0, .ref (ja 8 0)), (1, .int x), (2, .ref oa)]) hx hb dL_addStation_12 rfl hl (by decide) rfl (fun ls hl => ?_)
    refine lv_iconst (v := 1) hx hb dL_addStation_13 (by decide) ?_
    subst hQ
    refine rt_qi (((ja, E), v) : JE × Int64) hx hb hr hlk hS ⟨hT.symm, fun z => by rw [hT] at z; exact absurd z (by decide), rfl, by rw [hF]; exact hCE.set rfl, by rw [hF]; exact (hI.set rfl).Bm (by omega)⟩ (fun t9 ht9 _ => ?_) (by show 0 + 1 ≤ 3; omega) (by show 0 + 6 ≤ 73; omega) dL_addStation_14
    show WJ G d0 Rf _ _ _ t9.heap ∧ oC G oa _ t9.heap
    rw [ht9, hF]
    exact ⟨hW.gh thr_lk, hO⟩
set_option maxHeartbeats 4000000 in
set_option maxRecDepth 100000 in
theorem lL_addRobot (l : Launch) (G : gG) (d0 mi : Nat) (Rf : Nat → Prop) (ja : Nat → Nat → Nat) (M : MS) (E : ES) (oa : Nat) (v : Int64) (x : Int32) (y : Int32) (B : Nat) (hI : INV B M) (hCE : CE M E) (hB : B < 100000) (hRo : Rf oa) (hl9 : l.stackTraces = false) : Met l yL_addRobot (Cond.codeWith yL_addRobot cL_addRobot 5 (some .int) [(0, 10, 13, 13), (0, 10, 17, 15)] :: BIG) (rmL 12 2 76) (va_Pc [.ref (ja 8 0), .int x, .int y, .ref oa] (lJ G d0 mi Rf ja M E oa v)) (wQ G d0 Rf ja B oa (robT M x y) (robR M x y) (robF M x y)) 2 76 (lA Rf oa) := by
  refine st_H (own := RL) (by decide +kernel) rfl (Nat.le_of_ble_eq_true rfl) ?_
  intro p e s m below meth c ls args Q hQ hC hr hlk htab hl hP
  obtain ⟨⟨⟨hW, hX, hRf⟩, hT9⟩, hO, hN⟩ := hP
  have hK := hX.1
  have hx := hC.1
  have hb := hC.2.1
  have hl : lv_has ls 5 [(0, .ref (ja 8 0)), (1, .int x), (2, .int y), (3, .ref oa)] := hl
  have h16 := hW.cnt.T16
  have h6 := hW.cnt.R6
  have h10 := hW.cnt.O10
  have h3 := hW.cnt.S3
  refine lv_aload_n hx hb dL_addRobot_0 rfl (lv_at hl 3 rfl) ?_
  refine lv_iconst (v := 0) hx hb dL_addRobot_1 (by decide) ?_
  refine lv_aload_n hx hb dL_addRobot_2 rfl (lv_at hl 0 rfl) ?_
  refine lv_iload_n hx hb dL_addRobot_3 rfl (lv_at hl 1 rfl) ?_
  refine lv_iload_n hx hb dL_addRobot_4 rfl (lv_at hl 2 rfl) ?_
  by_cases h : inB x 64 = true
  · obtain ⟨j, hj, rfl⟩ := inB_of (n := 64) (by omega) h
    have ej : ix (nI j) = j := ix_nI (by omega)
    by_cases h2 : inB y 10 = true
    · obtain ⟨w, hw, rfl⟩ := inB_of (n := 10) (by omega) h2
      by_cases hc : M 2 j = 0 ∧ rbA M (nI j) = none ∧ nR M < 6
      · have hT : robT M (nI j) (nI w) = 0 := by unfold robT; rw [if_pos ⟨h, h2⟩, ej, if_pos ⟨hc.1, hc.2.1, by omega⟩]
        refine va_calli (run_V hC (cJ_X8_addRobot l G d0 mi Rf ja M E j w hj (by omega) hI.u18 hc.1 hc.2.1 hc.2.2) (As := [.int (nI j), .int (nI w)]) (rest := [.int 0, .ref oa]) rfl rfl ml_L_63 im_X8_addRobot se_X8_addRobot ini_X8 cd_X8_addRobot ⟨rfl, na_X8_addRobot⟩ jB_blind (hW.recv hK (show jV M 8 0 from rfl) rfl) (jB_at hX hRf hW va_S.rf) hl.1 (Nat.le_of_ble_eq_true rfl) ⟨Nat.le_of_ble_eq_true rfl, Nat.le_of_ble_eq_true rfl⟩ ⟨by show 0 + 2 ≤ 2; omega, by show 0 + 76 ≤ 76; omega⟩ rfl dL_addRobot_5) va_S.rf (fun _ _ h => h) (fun _ h => h) (fun r u t H1 locs1 ht _ hp hB hz1 _ hS => ?_)
        rw [ht] at hB
        have hO : oC G oa v H1 := va_at.kept hO (hS.2.1 _ (va_at.lt hO) (fun z => z hRo))
        obtain ⟨ja9, E9⟩ := u
        obtain ⟨hp1, hp2, hp3⟩ := hp
        dsimp only at hp2 hp3 hB
        subst hp3
        have hW := WJ.gh (M' := robF M (nI j) (nI w)) hB (fun k hk => rob_lk hT k (gh_ne hk rfl))
        refine lv_i2l hx hb dL_addRobot_8 rfl ?_
        refine r2_lst hC hK (A := lA Rf oa) hO (S_lA hS) (Or.inr rfl) dL_addRobot_9 (fun H locs hO hz hoq hS => ?_)
        have hW := hW.kept (H1 := H) (fun q hq hnR => hoq q (fun e9 => hnR (by rw [e9]; exact hRo)))
        refine lv_goto (tgt := 21) hx hb dL_addRobot_10 (by decide) ?_
        refine lv_iconst (v := 0) hx hb dL_addRobot_21 (by decide) ?_
        subst hQ
        exact rt_qi (((ja9, rbE M E), r.toInt64) : JE × Int64) hx hb hr hlk hS ⟨hT.symm, fun _ => congrArg Int32.toInt64 (hp1.trans (by unfold robR; rw [if_pos hT])), hp2, (CE_rob hCE hc.2.2).cg (fun k hk => rob_lk hT k (fun q => by rw [q] at hk; cases hk)), ((INV_rob hI hc.2.2 hj hc.2.1).cg (fun k hk => rob_lk hT k (inv_ne hk rfl))).Bm (by omega)⟩ (fun t9 ht9 _ => by show WJ G d0 Rf _ _ _ t9.heap ∧ oC G oa _ t9.heap; rw [ht9]; exact ⟨hW, hO⟩) (by show 0 + 2 ≤ 2; omega) (by show 0 + 76 ≤ 76; omega) dL_addRobot_22
      · have hT : robT M (nI j) (nI w) = 2 := by unfold robT; rw [if_pos ⟨h, h2⟩, ej, if_neg (fun z => hc ⟨z.1, z.2.1, by have k9 := z.2.2; omega⟩)]
        refine jl_catch (A0 := lA Rf oa) (run_VX hC (cJ_X8_addRobotX3 l G d0 mi Rf ja M E j w hj (by omega) hI.u18 hc hl9) (As := [.int (nI j), .int (nI w)]) (rest := [.int 0, .ref oa]) rfl rfl ml_L_63 im_X8_addRobot se_X8_addRobot ini_X8 cd_X8_addRobot ⟨rfl, na_X8_addRobot⟩ jT_blind (hW.recv hK (show jV M 8 0 from rfl) rfl) (jT_at hX hT9 hRf hW va_S.rf) hl.1 (Nat.le_of_ble_eq_true rfl) ⟨Nat.le_of_ble_eq_true rfl, Nat.le_of_ble_eq_true rfl⟩ ⟨by show 0 + 1 ≤ 2; omega, by show 0 + 6 ≤ 76; omega⟩ rfl dL_addRobot_5) va_S.rf (fun q h => Or.inl h) hC.2.2.2.1 [⟨0, 10, 13, 13⟩] ⟨0, 10, 17, 15⟩ [] htab (fun z hz => by simp only [List.mem_cons, List.not_mem_nil, or_false] at hz; rcases hz with rfl; all_goals first | exact Or.inr ⟨by decide, _, hC.2.2.2.2 _ cl_L_13, hN.1⟩) (by decide) (by decide) (hC.2.2.2.2 _ cl_L_15) (va_Nw.use rfl (hT9.2.1 (xISE, xISE) (by decide))) (fun q H locs hz hk hS => ?_)
        have hW := hW.kept (H1 := H) (fun q hq _ => hk q hq)
        have hO : oC G oa v H := va_at.kept hO (hk _ (va_at.lt hO))
        have hF : robF M (nI j) (nI w) = thr M 2 := by unfold robF; rw [if_neg (by rw [hT]; decide), hT]
        refine lv_astore (lv' := [(4, .ref q), (0, .ref (ja 8 0)), (1, .int (nI j)), (2, .int (nI w)), (3, .ref oa)]) hx hb dL_addRobot_17 hl (by decide) rfl (fun ls hl => ?_)
        refine lv_iconst (v := 2) hx hb dL_addRobot_19 (by decide) ?_
        subst hQ
        refine rt_qi (((ja, E), v) : JE × Int64) hx hb hr hlk hS ⟨hT.symm, fun z => by rw [hT] at z; exact absurd z (by decide), rfl, by rw [hF]; exact hCE.set rfl, by rw [hF]; exact (hI.set rfl).Bm (by omega)⟩ (fun t9 ht9 _ => ?_) (by show 0 + 1 ≤ 2; omega) (by show 0 + 6 ≤ 76; omega) dL_addRobot_20
        show WJ G d0 Rf _ _ _ t9.heap ∧ oC G oa _ t9.heap
        rw [ht9, hF]
        exact ⟨hW.gh thr_lk, hO⟩
    · have hT : robT M (nI j) y = 1 := by unfold robT; rw [if_neg (fun z => h2 z.2)]
      have hno : inB y 10 = false := by simpa using h2
      refine jl_catch (A0 := lA Rf oa) (run_VX hC (cJ_X8_addRobotX2 l G d0 mi Rf ja M E j y hj hno hl9) (As := [.int (nI j), .int y]) (rest := [.int 0, .ref oa]) rfl rfl ml_L_63 im_X8_addRobot se_X8_addRobot ini_X8 cd_X8_addRobot ⟨rfl, na_X8_addRobot⟩ jT_blind (hW.recv hK (show jV M 8 0 from rfl) rfl) (jT_at hX hT9 hRf hW va_S.rf) hl.1 (Nat.le_of_ble_eq_true rfl) ⟨Nat.le_of_ble_eq_true rfl, Nat.le_of_ble_eq_true rfl⟩ ⟨by show 0 + 1 ≤ 2; omega, by show 0 + 6 ≤ 76; omega⟩ rfl dL_addRobot_5) va_S.rf (fun q h => Or.inl h) hC.2.2.2.1 [] ⟨0, 10, 13, 13⟩ [⟨0, 10, 17, 15⟩] htab (fun z hz => nomatch hz) (by decide) (by decide) (hC.2.2.2.2 _ cl_L_13) (va_Nw.use rfl (hT9.2.1 (xIAE, xIAE) (by decide))) (fun q H locs hz hk hS => ?_)
      have hW := hW.kept (H1 := H) (fun q hq _ => hk q hq)
      have hO : oC G oa v H := va_at.kept hO (hk _ (va_at.lt hO))
      have hF : robF M (nI j) y = thr M 1 := by unfold robF; rw [if_neg (by rw [hT]; decide), hT]
      refine lv_astore (lv' := [(4, .ref q), (0, .ref (ja 8 0)), (1, .int (nI j)), (2, .int y), (3, .ref oa)]) hx hb dL_addRobot_13 hl (by decide) rfl (fun ls hl => ?_)
      refine lv_iconst (v := 1) hx hb dL_addRobot_15 (by decide) ?_
      subst hQ
      refine rt_qi (((ja, E), v) : JE × Int64) hx hb hr hlk hS ⟨hT.symm, fun z => by rw [hT] at z; exact absurd z (by decide), rfl, by rw [hF]; exact hCE.set rfl, by rw [hF]; exact (hI.set rfl).Bm (by omega)⟩ (fun t9 ht9 _ => ?_) (by show 0 + 1 ≤ 2; omega) (by show 0 + 6 ≤ 76; omega) dL_addRobot_16
      show WJ G d0 Rf _ _ _ t9.heap ∧ oC G oa _ t9.heap
      rw [ht9, hF]
      exact ⟨hW.gh thr_lk, hO⟩
  · have hT : robT M x y = 1 := by unfold robT; rw [if_neg (fun z => h z.1)]
    have hno : inB x 64 = false := by simpa using h
    refine jl_catch (A0 := lA Rf oa) (run_VX hC (cJ_X8_addRobotX1 l G d0 mi Rf ja M E x y hno hl9) (As := [.int x, .int y]) (rest := [.int 0, .ref oa]) rfl rfl ml_L_63 im_X8_addRobot se_X8_addRobot ini_X8 cd_X8_addRobot ⟨rfl, na_X8_addRobot⟩ jT_blind (hW.recv hK (show jV M 8 0 from rfl) rfl) (jT_at hX hT9 hRf hW va_S.rf) hl.1 (Nat.le_of_ble_eq_true rfl) ⟨Nat.le_of_ble_eq_true rfl, Nat.le_of_ble_eq_true rfl⟩ ⟨by show 0 + 1 ≤ 2; omega, by show 0 + 6 ≤ 76; omega⟩ rfl dL_addRobot_5) va_S.rf (fun q h => Or.inl h) hC.2.2.2.1 [] ⟨0, 10, 13, 13⟩ [⟨0, 10, 17, 15⟩] htab (fun z hz => nomatch hz) (by decide) (by decide) (hC.2.2.2.2 _ cl_L_13) (va_Nw.use rfl (hT9.2.1 (xIAE, xIAE) (by decide))) (fun q H locs hz hk hS => ?_)
    have hW := hW.kept (H1 := H) (fun q hq _ => hk q hq)
    have hO : oC G oa v H := va_at.kept hO (hk _ (va_at.lt hO))
    have hF : robF M x y = thr M 1 := by unfold robF; rw [if_neg (by rw [hT]; decide), hT]
    refine lv_astore (lv' := [(4, .ref q), (0, .ref (ja 8 0)), (1, .int x), (2, .int y), (3, .ref oa)]) hx hb dL_addRobot_13 hl (by decide) rfl (fun ls hl => ?_)
    refine lv_iconst (v := 1) hx hb dL_addRobot_15 (by decide) ?_
    subst hQ
    refine rt_qi (((ja, E), v) : JE × Int64) hx hb hr hlk hS ⟨hT.symm, fun z => by rw [hT] at z; exact absurd z (by decide), rfl, by rw [hF]; exact hCE.set rfl, by rw [hF]; exact (hI.set rfl).Bm (by omega)⟩ (fun t9 ht9 _ => ?_) (by show 0 + 1 ≤ 2; omega) (by show 0 + 6 ≤ 76; omega) dL_addRobot_16
    show WJ G d0 Rf _ _ _ t9.heap ∧ oC G oa _ t9.heap
    rw [ht9, hF]
    exact ⟨hW.gh thr_lk, hO⟩
set_option maxHeartbeats 4000000 in
set_option maxRecDepth 100000 in
theorem lL_addTray (l : Launch) (G : gG) (d0 mi : Nat) (Rf : Nat → Prop) (ja : Nat → Nat → Nat) (M : MS) (E : ES) (oa : Nat) (v : Int64) (x : Int32) (y : Int32) (z9 : Int32) (B : Nat) (hI : INV B M) (hCE : CE M E) (hB : B < 100000) (hRo : Rf oa) (hl9 : l.stackTraces = false) : Met l yL_addTray (Cond.codeWith yL_addTray cL_addTray 6 (some .int) [(0, 12, 15, 13), (0, 12, 19, 15)] :: BIG) (rmL 12 2 72) (va_Pc [.ref (ja 8 0), .int x, .int y, .int z9, .ref oa] (lJ G d0 mi Rf ja M E oa v)) (wQ G d0 Rf ja B oa (trayT M x y z9) (trayR M x y z9) (trayF M x y z9)) 2 72 (lA Rf oa) := by
  refine st_H (own := RL) (by decide +kernel) rfl (Nat.le_of_ble_eq_true rfl) ?_
  intro p e s m below meth c ls args Q hQ hC hr hlk htab hl hP
  obtain ⟨⟨⟨hW, hX, hRf⟩, hT9⟩, hO, hN⟩ := hP
  have hK := hX.1
  have hx := hC.1
  have hb := hC.2.1
  have hl : lv_has ls 6 [(0, .ref (ja 8 0)), (1, .int x), (2, .int y), (3, .int z9), (4, .ref oa)] := hl
  have h16 := hW.cnt.T16
  have h6 := hW.cnt.R6
  have h10 := hW.cnt.O10
  have h3 := hW.cnt.S3
  refine lv_aload hx hb dL_addTray_0 (lv_at hl 4 rfl) ?_
  refine lv_iconst (v := 0) hx hb dL_addTray_2 (by decide) ?_
  refine lv_aload_n hx hb dL_addTray_3 rfl (lv_at hl 0 rfl) ?_
  refine lv_iload_n hx hb dL_addTray_4 rfl (lv_at hl 1 rfl) ?_
  refine lv_iload_n hx hb dL_addTray_5 rfl (lv_at hl 2 rfl) ?_
  refine lv_iload_n hx hb dL_addTray_6 rfl (lv_at hl 3 rfl) ?_
  by_cases h : inB x 64 = true
  · obtain ⟨j, hj, rfl⟩ := inB_of (n := 64) (by omega) h
    have ej : ix (nI j) = j := ix_nI (by omega)
    by_cases h2 : inB y 6 = true
    · obtain ⟨g0, hg0, rfl⟩ := inB_of (n := 6) (by omega) h2
      by_cases h3_ : inB z9 101 = true
      · obtain ⟨a0, ha0, rfl⟩ := inB_of (n := 101) (by omega) h3_
        by_cases hc : M 2 j = 0 ∧ hmA M (nI j) = none ∧ nT M < 16
        · have hT : trayT M (nI j) (nI g0) (nI a0) = 0 := by unfold trayT; rw [if_pos ⟨h, h2, h3_⟩, ej, if_pos ⟨hc.1, hc.2.1, by omega⟩]
          have hlk9 := trayR_lk (M := M) (h := j) (g := g0) hg0 hT
          refine va_calli (run_V hC (cJ_X8_addTray l G d0 mi Rf ja M E j g0 a0 hj hg0 (by omega) hc.1 hc.2.1 hc.2.2) (As := [.int (nI j), .int (nI g0), .int (nI a0)]) (rest := [.int 0, .ref oa]) rfl rfl ml_L_29 im_X8_addTray se_X8_addTray ini_X8 cd_X8_addTray ⟨rfl, na_X8_addTray⟩ jB_blind (hW.recv hK (show jV M 8 0 from rfl) rfl) (jB_at hX hRf hW va_S.rf) hl.1 (Nat.le_of_ble_eq_true rfl) ⟨Nat.le_of_ble_eq_true rfl, Nat.le_of_ble_eq_true rfl⟩ ⟨by show 0 + 2 ≤ 2; omega, by show 0 + 72 ≤ 72; omega⟩ rfl dL_addTray_7) va_S.rf (fun _ _ h => h) (fun _ h => h) (fun r u t H1 locs1 ht _ hp hB hz1 _ hS => ?_)
          rw [ht] at hB
          have hO : oC G oa v H1 := va_at.kept hO (hS.2.1 _ (va_at.lt hO) (fun z => z hRo))
          obtain ⟨ja9, E9⟩ := u
          obtain ⟨hp1, hp2, hp3⟩ := hp
          dsimp only at hp2 hp3 hB
          subst hp3
          have hW := WJ.gh (M' := trayF M (nI j) (nI g0) (nI a0)) hB (fun k hk => (hlk9 k (gh_ne hk rfl)).trans (trR_n (gh_ne hk rfl)))
          refine lv_i2l hx hb dL_addTray_10 rfl ?_
          refine r2_lst hC hK (A := lA Rf oa) hO (S_lA hS) (Or.inr rfl) dL_addTray_11 (fun H locs hO hz hoq hS => ?_)
          have hW := hW.kept (H1 := H) (fun q hq hnR => hoq q (fun e9 => hnR (by rw [e9]; exact hRo)))
          refine lv_goto (tgt := 23) hx hb dL_addTray_12 (by decide) ?_
          refine lv_iconst (v := 0) hx hb dL_addTray_23 (by decide) ?_
          subst hQ
          exact rt_qi (((ja9, trE M E (nI a0)), r.toInt64) : JE × Int64) hx hb hr hlk hS ⟨hT.symm, fun _ => congrArg Int32.toInt64 (hp1.trans (by unfold trayR; rw [if_pos hT])), hp2, (CE_tray hCE hI hc.2.2 hg0).cg (fun k hk => hlk9 k (fun q => by rw [q] at hk; cases hk)), ((INV_tray hI hc.2.2 hj hg0).cg (fun k hk => (hlk9 k (inv_ne hk rfl)).trans (trR_n (inv_ne hk rfl)))).Bm (by omega)⟩ (fun t9 ht9 _ => by show WJ G d0 Rf _ _ _ t9.heap ∧ oC G oa _ t9.heap; rw [ht9]; exact ⟨hW, hO⟩) (by show 0 + 2 ≤ 2; omega) (by show 0 + 72 ≤ 72; omega) dL_addTray_24
        · have hT : trayT M (nI j) (nI g0) (nI a0) = 2 := by unfold trayT; rw [if_pos ⟨h, h2, h3_⟩, ej, if_neg (fun z => hc ⟨z.1, z.2.1, by have k9 := z.2.2; omega⟩)]
          refine jl_catch (A0 := lA Rf oa) (run_VX hC (cJ_X8_addTrayX4 l G d0 mi Rf ja M E j g0 a0 hj hg0 (by omega) hc hl9) (As := [.int (nI j), .int (nI g0), .int (nI a0)]) (rest := [.int 0, .ref oa]) rfl rfl ml_L_29 im_X8_addTray se_X8_addTray ini_X8 cd_X8_addTray ⟨rfl, na_X8_addTray⟩ jT_blind (hW.recv hK (show jV M 8 0 from rfl) rfl) (jT_at hX hT9 hRf hW va_S.rf) hl.1 (Nat.le_of_ble_eq_true rfl) ⟨Nat.le_of_ble_eq_true rfl, Nat.le_of_ble_eq_true rfl⟩ ⟨by show 0 + 1 ≤ 2; omega, by show 0 + 6 ≤ 72; omega⟩ rfl dL_addTray_7) va_S.rf (fun q h => Or.inl h) hC.2.2.2.1 [⟨0, 12, 15, 13⟩] ⟨0, 12, 19, 15⟩ [] htab (fun z hz => by simp only [List.mem_cons, List.not_mem_nil, or_false] at hz; rcases hz with rfl; all_goals first | exact Or.inr ⟨by decide, _, hC.2.2.2.2 _ cl_L_13, hN.1⟩) (by decide) (by decide) (hC.2.2.2.2 _ cl_L_15) (va_Nw.use rfl (hT9.2.1 (xISE, xISE) (by decide))) (fun q H locs hz hk hS => ?_)
          have hW := hW.kept (H1 := H) (fun q hq _ => hk q hq)
          have hO : oC G oa v H := va_at.kept hO (hk _ (va_at.lt hO))
          have hF : trayF M (nI j) (nI g0) (nI a0) = thr M 2 := by unfold trayF; rw [if_neg (by rw [hT]; decide), hT]
          refine lv_astore (lv' := [(5, .ref q), (0, .ref (ja 8 0)), (1, .int (nI j)), (2, .int (nI g0)), (3, .int (nI a0)), (4, .ref oa)]) hx hb dL_addTray_19 hl (by decide) rfl (fun ls hl => ?_)
          refine lv_iconst (v := 2) hx hb dL_addTray_21 (by decide) ?_
          subst hQ
          refine rt_qi (((ja, E), v) : JE × Int64) hx hb hr hlk hS ⟨hT.symm, fun z => by rw [hT] at z; exact absurd z (by decide), rfl, by rw [hF]; exact hCE.set rfl, by rw [hF]; exact (hI.set rfl).Bm (by omega)⟩ (fun t9 ht9 _ => ?_) (by show 0 + 1 ≤ 2; omega) (by show 0 + 6 ≤ 72; omega) dL_addTray_22
          show WJ G d0 Rf _ _ _ t9.heap ∧ oC G oa _ t9.heap
          rw [ht9, hF]
          exact ⟨hW.gh thr_lk, hO⟩
      · have hT : trayT M (nI j) (nI g0) z9 = 1 := by unfold trayT; rw [if_neg (fun z => h3_ z.2.2)]
        have hno : inB z9 101 = false := by simpa using h3_
        refine jl_catch (A0 := lA Rf oa) (run_VX hC (cJ_X8_addTrayX3 l G d0 mi Rf ja M E j g0 z9 hj hg0 hno hl9) (As := [.int (nI j), .int (nI g0), .int z9]) (rest := [.int 0, .ref oa]) rfl rfl ml_L_29 im_X8_addTray se_X8_addTray ini_X8 cd_X8_addTray ⟨rfl, na_X8_addTray⟩ jT_blind (hW.recv hK (show jV M 8 0 from rfl) rfl) (jT_at hX hT9 hRf hW va_S.rf) hl.1 (Nat.le_of_ble_eq_true rfl) ⟨Nat.le_of_ble_eq_true rfl, Nat.le_of_ble_eq_true rfl⟩ ⟨by show 0 + 1 ≤ 2; omega, by show 0 + 6 ≤ 72; omega⟩ rfl dL_addTray_7) va_S.rf (fun q h => Or.inl h) hC.2.2.2.1 [] ⟨0, 12, 15, 13⟩ [⟨0, 12, 19, 15⟩] htab (fun z hz => nomatch hz) (by decide) (by decide) (hC.2.2.2.2 _ cl_L_13) (va_Nw.use rfl (hT9.2.1 (xIAE, xIAE) (by decide))) (fun q H locs hz hk hS => ?_)
        have hW := hW.kept (H1 := H) (fun q hq _ => hk q hq)
        have hO : oC G oa v H := va_at.kept hO (hk _ (va_at.lt hO))
        have hF : trayF M (nI j) (nI g0) z9 = thr M 1 := by unfold trayF; rw [if_neg (by rw [hT]; decide), hT]
        refine lv_astore (lv' := [(5, .ref q), (0, .ref (ja 8 0)), (1, .int (nI j)), (2, .int (nI g0)), (3, .int z9), (4, .ref oa)]) hx hb dL_addTray_15 hl (by decide) rfl (fun ls hl => ?_)
        refine lv_iconst (v := 1) hx hb dL_addTray_17 (by decide) ?_
        subst hQ
        refine rt_qi (((ja, E), v) : JE × Int64) hx hb hr hlk hS ⟨hT.symm, fun z => by rw [hT] at z; exact absurd z (by decide), rfl, by rw [hF]; exact hCE.set rfl, by rw [hF]; exact (hI.set rfl).Bm (by omega)⟩ (fun t9 ht9 _ => ?_) (by show 0 + 1 ≤ 2; omega) (by show 0 + 6 ≤ 72; omega) dL_addTray_18
        show WJ G d0 Rf _ _ _ t9.heap ∧ oC G oa _ t9.heap
        rw [ht9, hF]
        exact ⟨hW.gh thr_lk, hO⟩
    · have hT : trayT M (nI j) y z9 = 1 := by unfold trayT; rw [if_neg (fun z => h2 z.2.1)]
      have hno : inB y 6 = false := by simpa using h2
      refine jl_catch (A0 := lA Rf oa) (run_VX hC (cJ_X8_addTrayX2 l G d0 mi Rf ja M E j y z9 hj hno hl9) (As := [.int (nI j), .int y, .int z9]) (rest := [.int 0, .ref oa]) rfl rfl ml_L_29 im_X8_addTray se_X8_addTray ini_X8 cd_X8_addTray ⟨rfl, na_X8_addTray⟩ jT_blind (hW.recv hK (show jV M 8 0 from rfl) rfl) (jT_at hX hT9 hRf hW va_S.rf) hl.1 (Nat.le_of_ble_eq_true rfl) ⟨Nat.le_of_ble_eq_true rfl, Nat.le_of_ble_eq_true rfl⟩ ⟨by show 0 + 1 ≤ 2; omega, by show 0 + 6 ≤ 72; omega⟩ rfl dL_addTray_7) va_S.rf (fun q h => Or.inl h) hC.2.2.2.1 [] ⟨0, 12, 15, 13⟩ [⟨0, 12, 19, 15⟩] htab (fun z hz => nomatch hz) (by decide) (by decide) (hC.2.2.2.2 _ cl_L_13) (va_Nw.use rfl (hT9.2.1 (xIAE, xIAE) (by decide))) (fun q H locs hz hk hS => ?_)
      have hW := hW.kept (H1 := H) (fun q hq _ => hk q hq)
      have hO : oC G oa v H := va_at.kept hO (hk _ (va_at.lt hO))
      have hF : trayF M (nI j) y z9 = thr M 1 := by unfold trayF; rw [if_neg (by rw [hT]; decide), hT]
      refine lv_astore (lv' := [(5, .ref q), (0, .ref (ja 8 0)), (1, .int (nI j)), (2, .int y), (3, .int z9), (4, .ref oa)]) hx hb dL_addTray_15 hl (by decide) rfl (fun ls hl => ?_)
      refine lv_iconst (v := 1) hx hb dL_addTray_17 (by decide) ?_
      subst hQ
      refine rt_qi (((ja, E), v) : JE × Int64) hx hb hr hlk hS ⟨hT.symm, fun z => by rw [hT] at z; exact absurd z (by decide), rfl, by rw [hF]; exact hCE.set rfl, by rw [hF]; exact (hI.set rfl).Bm (by omega)⟩ (fun t9 ht9 _ => ?_) (by show 0 + 1 ≤ 2; omega) (by show 0 + 6 ≤ 72; omega) dL_addTray_18
      show WJ G d0 Rf _ _ _ t9.heap ∧ oC G oa _ t9.heap
      rw [ht9, hF]
      exact ⟨hW.gh thr_lk, hO⟩
  · have hT : trayT M x y z9 = 1 := by unfold trayT; rw [if_neg (fun z => h z.1)]
    have hno : inB x 64 = false := by simpa using h
    refine jl_catch (A0 := lA Rf oa) (run_VX hC (cJ_X8_addTrayX1 l G d0 mi Rf ja M E x y z9 hno hl9) (As := [.int x, .int y, .int z9]) (rest := [.int 0, .ref oa]) rfl rfl ml_L_29 im_X8_addTray se_X8_addTray ini_X8 cd_X8_addTray ⟨rfl, na_X8_addTray⟩ jT_blind (hW.recv hK (show jV M 8 0 from rfl) rfl) (jT_at hX hT9 hRf hW va_S.rf) hl.1 (Nat.le_of_ble_eq_true rfl) ⟨Nat.le_of_ble_eq_true rfl, Nat.le_of_ble_eq_true rfl⟩ ⟨by show 0 + 1 ≤ 2; omega, by show 0 + 6 ≤ 72; omega⟩ rfl dL_addTray_7) va_S.rf (fun q h => Or.inl h) hC.2.2.2.1 [] ⟨0, 12, 15, 13⟩ [⟨0, 12, 19, 15⟩] htab (fun z hz => nomatch hz) (by decide) (by decide) (hC.2.2.2.2 _ cl_L_13) (va_Nw.use rfl (hT9.2.1 (xIAE, xIAE) (by decide))) (fun q H locs hz hk hS => ?_)
    have hW := hW.kept (H1 := H) (fun q hq _ => hk q hq)
    have hO : oC G oa v H := va_at.kept hO (hk _ (va_at.lt hO))
    have hF : trayF M x y z9 = thr M 1 := by unfold trayF; rw [if_neg (by rw [hT]; decide), hT]
    refine lv_astore (lv' := [(5, .ref q), (0, .ref (ja 8 0)), (1, .int x), (2, .int y), (3, .int z9), (4, .ref oa)]) hx hb dL_addTray_15 hl (by decide) rfl (fun ls hl => ?_)
    refine lv_iconst (v := 1) hx hb dL_addTray_17 (by decide) ?_
    subst hQ
    refine rt_qi (((ja, E), v) : JE × Int64) hx hb hr hlk hS ⟨hT.symm, fun z => by rw [hT] at z; exact absurd z (by decide), rfl, by rw [hF]; exact hCE.set rfl, by rw [hF]; exact (hI.set rfl).Bm (by omega)⟩ (fun t9 ht9 _ => ?_) (by show 0 + 1 ≤ 2; omega) (by show 0 + 6 ≤ 72; omega) dL_addTray_18
    show WJ G d0 Rf _ _ _ t9.heap ∧ oC G oa _ t9.heap
    rw [ht9, hF]
    exact ⟨hW.gh thr_lk, hO⟩
set_option maxHeartbeats 4000000 in
set_option maxRecDepth 100000 in
theorem lL_addLine (l : Launch) (G : gG) (d0 mi : Nat) (Rf : Nat → Prop) (ja : Nat → Nat → Nat) (M : MS) (E : ES) (oa : Nat) (v : Int64) (x : Int32) (y : Int32) (z9 : Int32) (B : Nat) (hI : INV B M) (hCE : CE M E) (hB : B < 100000) (hRo : Rf oa) (hl9 : l.stackTraces = false) : Met l yL_addLine (Cond.codeWith yL_addLine cL_addLine 6 (some .int) [(0, 12, 15, 36), (0, 12, 19, 13), (0, 12, 23, 15)] :: BIG) (rmL 12 2 71) (va_Pc [.ref (ja 8 0), .int x, .int y, .int z9, .ref oa] (lJ G d0 mi Rf ja M E oa v)) (wQ G d0 Rf ja B oa (lineT M x y z9) (lineR M x y z9) (lineF M x y z9)) 2 71 (lA Rf oa) := by
  refine st_H (own := RL) (by decide +kernel) rfl (Nat.le_of_ble_eq_true rfl) ?_
  intro p e s m below meth c ls args Q hQ hC hr hlk htab hl hP
  obtain ⟨⟨⟨hW, hX, hRf⟩, hT9⟩, hO, hN⟩ := hP
  have hK := hX.1
  have hx := hC.1
  have hb := hC.2.1
  have hl : lv_has ls 6 [(0, .ref (ja 8 0)), (1, .int x), (2, .int y), (3, .int z9), (4, .ref oa)] := hl
  have h16 := hW.cnt.T16
  have h6 := hW.cnt.R6
  have h10 := hW.cnt.O10
  have h3 := hW.cnt.S3
  refine lv_aload hx hb dL_addLine_0 (lv_at hl 4 rfl) ?_
  refine lv_iconst (v := 0) hx hb dL_addLine_2 (by decide) ?_
  refine lv_aload_n hx hb dL_addLine_3 rfl (lv_at hl 0 rfl) ?_
  refine lv_iload_n hx hb dL_addLine_4 rfl (lv_at hl 1 rfl) ?_
  refine lv_iload_n hx hb dL_addLine_5 rfl (lv_at hl 2 rfl) ?_
  refine lv_iload_n hx hb dL_addLine_6 rfl (lv_at hl 3 rfl) ?_
  by_cases h : inB x (nI (nO M)) = true
  · obtain ⟨jo, hjo, rfl⟩ := inB_of (n := nO M) (by omega) h
    have ej : ix (nI jo) = jo := ix_nI (by omega)
    have hL3 := hW.cnt.L3 (o := jo) (by omega)
    by_cases h2 : inB y 6 = true
    · obtain ⟨g0, hg0, rfl⟩ := inB_of (n := 6) (by omega) h2
      by_cases ha : ¬ z9 < 1 ∧ z9 ≤ 50
      · obtain ⟨a0, ha0, ha1, rfl⟩ : ∃ a, 0 < a ∧ a ≤ 50 ∧ z9 = nI a := rg_nat (by decide) ha.1 ha.2
        by_cases hc : nL M jo = 3
        · have hT : lineT M (nI jo) (nI g0) (nI a0) = 3 := by unfold lineT; rw [if_pos h, if_pos ⟨h2, ha⟩, ej, if_pos hc]
          refine jl_catch (A0 := lA Rf oa) (run_VX hC (cJ_X8_addLineX4 l G d0 mi Rf ja M E jo g0 a0 hjo hg0 ha0 ha1 (by omega) hl9) (As := [.int (nI jo), .int (nI g0), .int (nI a0)]) (rest := [.int 0, .ref oa]) rfl rfl ml_L_42 im_X8_addLine se_X8_addLine ini_X8 cd_X8_addLine ⟨rfl, na_X8_addLine⟩ jT_blind (hW.recv hK (show jV M 8 0 from rfl) rfl) (jT_at hX hT9 hRf hW va_S.rf) hl.1 (Nat.le_of_ble_eq_true rfl) ⟨Nat.le_of_ble_eq_true rfl, Nat.le_of_ble_eq_true rfl⟩ ⟨by show 0 + 1 ≤ 2; omega, by show 0 + 6 ≤ 71; omega⟩ rfl dL_addLine_7) va_S.rf (fun q h => Or.inl h) hC.2.2.2.1 [⟨0, 12, 15, 36⟩, ⟨0, 12, 19, 13⟩] ⟨0, 12, 23, 15⟩ [] htab (fun z hz => by simp only [List.mem_cons, List.not_mem_nil, or_false] at hz; rcases hz with rfl | rfl; all_goals first | exact Or.inr ⟨by decide, _, hC.2.2.2.2 _ cl_L_36, hN.2.2⟩ | exact Or.inr ⟨by decide, _, hC.2.2.2.2 _ cl_L_13, hN.1⟩) (by decide) (by decide) (hC.2.2.2.2 _ cl_L_15) (va_Nw.use rfl (hT9.2.1 (xISE, xISE) (by decide))) (fun q H locs hz hk hS => ?_)
          have hW := hW.kept (H1 := H) (fun q hq _ => hk q hq)
          have hO : oC G oa v H := va_at.kept hO (hk _ (va_at.lt hO))
          have hF : lineF M (nI jo) (nI g0) (nI a0) = thr M 3 := by unfold lineF; rw [if_neg (by rw [hT]; decide), hT]
          refine lv_astore (lv' := [(5, .ref q), (0, .ref (ja 8 0)), (1, .int (nI jo)), (2, .int (nI g0)), (3, .int (nI a0)), (4, .ref oa)]) hx hb dL_addLine_23 hl (by decide) rfl (fun ls hl => ?_)
          refine lv_iconst (v := 3) hx hb dL_addLine_25 (by decide) ?_
          subst hQ
          refine rt_qi (((ja, E), v) : JE × Int64) hx hb hr hlk hS ⟨hT.symm, fun z => by rw [hT] at z; exact absurd z (by decide), rfl, by rw [hF]; exact hCE.set rfl, by rw [hF]; exact (hI.set rfl).Bm (by omega)⟩ (fun t9 ht9 _ => ?_) (by show 0 + 1 ≤ 2; omega) (by show 0 + 6 ≤ 71; omega) dL_addLine_26
          show WJ G d0 Rf _ _ _ t9.heap ∧ oC G oa _ t9.heap
          rw [ht9, hF]
          exact ⟨hW.gh thr_lk, hO⟩
        · have hT : lineT M (nI jo) (nI g0) (nI a0) = 0 := by unfold lineT; rw [if_pos h, if_pos ⟨h2, ha⟩, ej, if_neg hc]
          have hlk9 := line_lk (M := M) (o := jo) (g := nI g0) (a := nI a0) (by omega) hT
          refine va_calli (run_V hC (cJ_X8_addLine l G d0 mi Rf ja M E jo g0 a0 hjo hg0 ha0 ha1 (by omega)) (As := [.int (nI jo), .int (nI g0), .int (nI a0)]) (rest := [.int 0, .ref oa]) rfl rfl ml_L_42 im_X8_addLine se_X8_addLine ini_X8 cd_X8_addLine ⟨rfl, na_X8_addLine⟩ jB_blind (hW.recv hK (show jV M 8 0 from rfl) rfl) (jB_at hX hRf hW va_S.rf) hl.1 (Nat.le_of_ble_eq_true rfl) ⟨Nat.le_of_ble_eq_true rfl, Nat.le_of_ble_eq_true rfl⟩ ⟨by show 0 + 2 ≤ 2; omega, by show 0 + 71 ≤ 71; omega⟩ rfl dL_addLine_7) va_S.rf (fun _ _ h => h) (fun _ h => h) (fun r u t H1 locs1 ht _ hp hB hz1 _ hS => ?_)
          rw [ht] at hB
          have hO : oC G oa v H1 := va_at.kept hO (hS.2.1 _ (va_at.lt hO) (fun z => z hRo))
          obtain ⟨ja9, E9⟩ := u
          obtain ⟨hp1, hp2, hp3⟩ := hp
          dsimp only at hp2 hp3 hB
          subst hp3
          have hW := WJ.gh (M' := lineF M (nI jo) (nI g0) (nI a0)) hB (fun k hk => hlk9 k (gh_ne hk rfl))
          refine lv_i2l hx hb dL_addLine_10 rfl ?_
          refine r2_lst hC hK (A := lA Rf oa) hO (S_lA hS) (Or.inr rfl) dL_addLine_11 (fun H locs hO hz hoq hS => ?_)
          have hW := hW.kept (H1 := H) (fun q hq hnR => hoq q (fun e9 => hnR (by rw [e9]; exact hRo)))
          refine lv_goto (tgt := 27) hx hb dL_addLine_12 (by decide) ?_
          refine lv_iconst (v := 0) hx hb dL_addLine_27 (by decide) ?_
          subst hQ
          exact rt_qi (((ja9, liE M E jo), r.toInt64) : JE × Int64) hx hb hr hlk hS ⟨hT.symm, fun _ => congrArg Int32.toInt64 (hp1.trans (by unfold lineR; rw [if_pos hT, ej])), hp2, (CE_line hCE hI hjo (by omega)).cg (fun k hk => hlk9 k (fun q => by rw [q] at hk; cases hk)), ((INV_line hI hjo (by omega) hg0 ha1).cg (fun k hk => hlk9 k (inv_ne hk rfl))).Bm (by omega)⟩ (fun t9 ht9 _ => by show WJ G d0 Rf _ _ _ t9.heap ∧ oC G oa _ t9.heap; rw [ht9]; exact ⟨hW, hO⟩) (by show 0 + 2 ≤ 2; omega) (by show 0 + 71 ≤ 71; omega) dL_addLine_28
      · have hT : lineT M (nI jo) (nI g0) z9 = 2 := by unfold lineT; rw [if_pos h, if_neg (fun z => ha z.2)]
        refine jl_catch (A0 := lA Rf oa) (run_VX hC (cJ_X8_addLineX3 l G d0 mi Rf ja M E jo g0 z9 hjo hg0 ha hl9) (As := [.int (nI jo), .int (nI g0), .int z9]) (rest := [.int 0, .ref oa]) rfl rfl ml_L_42 im_X8_addLine se_X8_addLine ini_X8 cd_X8_addLine ⟨rfl, na_X8_addLine⟩ jT_blind (hW.recv hK (show jV M 8 0 from rfl) rfl) (jT_at hX hT9 hRf hW va_S.rf) hl.1 (Nat.le_of_ble_eq_true rfl) ⟨Nat.le_of_ble_eq_true rfl, Nat.le_of_ble_eq_true rfl⟩ ⟨by show 0 + 1 ≤ 2; omega, by show 0 + 6 ≤ 71; omega⟩ rfl dL_addLine_7) va_S.rf (fun q h => Or.inl h) hC.2.2.2.1 [⟨0, 12, 15, 36⟩] ⟨0, 12, 19, 13⟩ [⟨0, 12, 23, 15⟩] htab (fun z hz => by simp only [List.mem_cons, List.not_mem_nil, or_false] at hz; rcases hz with rfl; all_goals first | exact Or.inr ⟨by decide, _, hC.2.2.2.2 _ cl_L_36, hN.2.1⟩) (by decide) (by decide) (hC.2.2.2.2 _ cl_L_13) (va_Nw.use rfl (hT9.2.1 (xIAE, xIAE) (by decide))) (fun q H locs hz hk hS => ?_)
        have hW := hW.kept (H1 := H) (fun q hq _ => hk q hq)
        have hO : oC G oa v H := va_at.kept hO (hk _ (va_at.lt hO))
        have hF : lineF M (nI jo) (nI g0) z9 = thr M 2 := by unfold lineF; rw [if_neg (by rw [hT]; decide), hT]
        refine lv_astore (lv' := [(5, .ref q), (0, .ref (ja 8 0)), (1, .int (nI jo)), (2, .int (nI g0)), (3, .int z9), (4, .ref oa)]) hx hb dL_addLine_19 hl (by decide) rfl (fun ls hl => ?_)
        refine lv_iconst (v := 2) hx hb dL_addLine_21 (by decide) ?_
        subst hQ
        refine rt_qi (((ja, E), v) : JE × Int64) hx hb hr hlk hS ⟨hT.symm, fun z => by rw [hT] at z; exact absurd z (by decide), rfl, by rw [hF]; exact hCE.set rfl, by rw [hF]; exact (hI.set rfl).Bm (by omega)⟩ (fun t9 ht9 _ => ?_) (by show 0 + 1 ≤ 2; omega) (by show 0 + 6 ≤ 71; omega) dL_addLine_22
        show WJ G d0 Rf _ _ _ t9.heap ∧ oC G oa _ t9.heap
        rw [ht9, hF]
        exact ⟨hW.gh thr_lk, hO⟩
    · have hT : lineT M (nI jo) y z9 = 2 := by unfold lineT; rw [if_pos h, if_neg (fun z => h2 z.1)]
      have hno : inB y 6 = false := by simpa using h2
      refine jl_catch (A0 := lA Rf oa) (run_VX hC (cJ_X8_addLineX2 l G d0 mi Rf ja M E jo y z9 hjo hno hl9) (As := [.int (nI jo), .int y, .int z9]) (rest := [.int 0, .ref oa]) rfl rfl ml_L_42 im_X8_addLine se_X8_addLine ini_X8 cd_X8_addLine ⟨rfl, na_X8_addLine⟩ jT_blind (hW.recv hK (show jV M 8 0 from rfl) rfl) (jT_at hX hT9 hRf hW va_S.rf) hl.1 (Nat.le_of_ble_eq_true rfl) ⟨Nat.le_of_ble_eq_true rfl, Nat.le_of_ble_eq_true rfl⟩ ⟨by show 0 + 1 ≤ 2; omega, by show 0 + 6 ≤ 71; omega⟩ rfl dL_addLine_7) va_S.rf (fun q h => Or.inl h) hC.2.2.2.1 [⟨0, 12, 15, 36⟩] ⟨0, 12, 19, 13⟩ [⟨0, 12, 23, 15⟩] htab (fun z hz => by simp only [List.mem_cons, List.not_mem_nil, or_false] at hz; rcases hz with rfl; all_goals first | exact Or.inr ⟨by decide, _, hC.2.2.2.2 _ cl_L_36, hN.2.1⟩) (by decide) (by decide) (hC.2.2.2.2 _ cl_L_13) (va_Nw.use rfl (hT9.2.1 (xIAE, xIAE) (by decide))) (fun q H locs hz hk hS => ?_)
      have hW := hW.kept (H1 := H) (fun q hq _ => hk q hq)
      have hO : oC G oa v H := va_at.kept hO (hk _ (va_at.lt hO))
      have hF : lineF M (nI jo) y z9 = thr M 2 := by unfold lineF; rw [if_neg (by rw [hT]; decide), hT]
      refine lv_astore (lv' := [(5, .ref q), (0, .ref (ja 8 0)), (1, .int (nI jo)), (2, .int y), (3, .int z9), (4, .ref oa)]) hx hb dL_addLine_19 hl (by decide) rfl (fun ls hl => ?_)
      refine lv_iconst (v := 2) hx hb dL_addLine_21 (by decide) ?_
      subst hQ
      refine rt_qi (((ja, E), v) : JE × Int64) hx hb hr hlk hS ⟨hT.symm, fun z => by rw [hT] at z; exact absurd z (by decide), rfl, by rw [hF]; exact hCE.set rfl, by rw [hF]; exact (hI.set rfl).Bm (by omega)⟩ (fun t9 ht9 _ => ?_) (by show 0 + 1 ≤ 2; omega) (by show 0 + 6 ≤ 71; omega) dL_addLine_22
      show WJ G d0 Rf _ _ _ t9.heap ∧ oC G oa _ t9.heap
      rw [ht9, hF]
      exact ⟨hW.gh thr_lk, hO⟩
  · have hT : lineT M x y z9 = 1 := by unfold lineT; rw [if_neg h]
    have hno : inB x (nI (nO M)) = false := by simpa using h
    refine jl_catch (A0 := lA Rf oa) (run_VX hC (cJ_X8_addLineX1 l G d0 mi Rf ja M E x y z9 hno hl9) (As := [.int x, .int y, .int z9]) (rest := [.int 0, .ref oa]) rfl rfl ml_L_42 im_X8_addLine se_X8_addLine ini_X8 cd_X8_addLine ⟨rfl, na_X8_addLine⟩ jT_blind (hW.recv hK (show jV M 8 0 from rfl) rfl) (jT_at hX hT9 hRf hW va_S.rf) hl.1 (Nat.le_of_ble_eq_true rfl) ⟨Nat.le_of_ble_eq_true rfl, Nat.le_of_ble_eq_true rfl⟩ ⟨by show 0 + 1 ≤ 2; omega, by show 0 + 6 ≤ 71; omega⟩ rfl dL_addLine_7) va_S.rf (fun q h => Or.inl h) hC.2.2.2.1 [] ⟨0, 12, 15, 36⟩ [⟨0, 12, 19, 13⟩, ⟨0, 12, 23, 15⟩] htab (fun z hz => nomatch hz) (by decide) (by decide) (hC.2.2.2.2 _ cl_L_36) (va_Nw.use rfl (hT9.2.1 (xIOE, xIOE) (by decide))) (fun q H locs hz hk hS => ?_)
    have hW := hW.kept (H1 := H) (fun q hq _ => hk q hq)
    have hO : oC G oa v H := va_at.kept hO (hk _ (va_at.lt hO))
    have hF : lineF M x y z9 = thr M 1 := by unfold lineF; rw [if_neg (by rw [hT]; decide), hT]
    refine lv_astore (lv' := [(5, .ref q), (0, .ref (ja 8 0)), (1, .int x), (2, .int y), (3, .int z9), (4, .ref oa)]) hx hb dL_addLine_15 hl (by decide) rfl (fun ls hl => ?_)
    refine lv_iconst (v := 1) hx hb dL_addLine_17 (by decide) ?_
    subst hQ
    refine rt_qi (((ja, E), v) : JE × Int64) hx hb hr hlk hS ⟨hT.symm, fun z => by rw [hT] at z; exact absurd z (by decide), rfl, by rw [hF]; exact hCE.set rfl, by rw [hF]; exact (hI.set rfl).Bm (by omega)⟩ (fun t9 ht9 _ => ?_) (by show 0 + 1 ≤ 2; omega) (by show 0 + 6 ≤ 71; omega) dL_addLine_18
    show WJ G d0 Rf _ _ _ t9.heap ∧ oC G oa _ t9.heap
    rw [ht9, hF]
    exact ⟨hW.gh thr_lk, hO⟩
