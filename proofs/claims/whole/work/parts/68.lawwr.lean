/-! WRAPPERS THAT WRITE -/
theorem S_lA {Rf : Nat → Prop} {oa : Nat} {H0 H : Heap} {locs : List Loc} (h : va_S (jA Rf) H0 H locs) : va_S (lA Rf oa) H0 H locs := ⟨h.1, fun q a b => h.2.1 q a (fun z => b (Or.inl z)), fun q hq => Or.inl (h.2.2 q hq)⟩
theorem thr_lk {M : MS} {k : Int32} : ∀ r, gh r = false → thr M k r = M r := fun r hr => mset_n M 0 k (gh_ne hr rfl)
/-- what a wrapper that writes leaves -/
def wQ (G : gG) (d0 : Nat) (Rf : Nat → Prop) (ja : Nat → Nat → Nat) (B : Nat) (oa : Nat) (T R : Int32) (M' : MS) : Array Value → State → Outcome → State → Prop :=
  va_Qi (S := JE × Int64) (fun r u => r = T ∧ (T = 0 → u.2 = R.toInt64) ∧ u.1.1 8 0 = ja 8 0 ∧ CE M' u.1.2 ∧ INV (B + 1) M') (fun u t => WJ G d0 Rf u.1.1 M' u.1.2 t.heap ∧ oC G oa u.2 t.heap) (lA Rf oa)
set_option maxHeartbeats 4000000 in
set_option maxRecDepth 100000 in
theorem lL_die (l : Launch) (G : gG) (d0 mi : Nat) (Rf : Nat → Prop) (ja : Nat → Nat → Nat) (M : MS) (E : ES) (oa : Nat) (v : Int64) (x : Int32) (B : Nat) (hI : INV B M) (hCE : CE M E) (hB : B < 100000) (hRo : Rf oa) (hl9 : l.stackTraces = false) : Met l yL_die (Cond.codeWith yL_die cL_die 4 (some .int) [(0, 9, 12, 36), (0, 9, 15, 15)] :: BIG) (rmL 12 1 6) (va_Pc [.ref (ja 8 0), .int x, .ref oa] (lJ G d0 mi Rf ja M E oa v)) (wQ G d0 Rf ja B oa (dieT M x) (dieR M x) (dieF M x)) 1 6 (lA Rf oa) := by
  refine st_H (own := RL) (by decide +kernel) rfl (Nat.le_of_ble_eq_true rfl) ?_
  intro p e s m below meth c ls args Q hQ hC hr hlk htab hl hP
  obtain ⟨⟨⟨hW, hX, hRf⟩, hT9⟩, hO, hN⟩ := hP
  have hK := hX.1
  have hx := hC.1
  have hb := hC.2.1
  have hl : lv_has ls 4 [(0, .ref (ja 8 0)), (1, .int x), (2, .ref oa)] := hl
  have h16 := hW.cnt.T16
  have h6 := hW.cnt.R6
  have h10 := hW.cnt.O10
  have h3 := hW.cnt.S3
  refine lv_aload_n hx hb dL_die_0 rfl (lv_at hl 2 rfl) ?_
  refine lv_iconst (v := 0) hx hb dL_die_1 (by decide) ?_
  refine lv_aload_n hx hb dL_die_2 rfl (lv_at hl 0 rfl) ?_
  refine lv_iload_n hx hb dL_die_3 rfl (lv_at hl 1 rfl) ?_
  by_cases h : inB x (nI (nR M)) = true
  · obtain ⟨j, hj, rfl⟩ := inB_of (n := nR M) (by omega) h
    have ej : ix (nI j) = j := ix_nI (by omega)
    obtain ⟨c0, hc0, ec0⟩ := (hI.r.1 j hj).1
    by_cases h5 : M 20 j = 5
    · have hT : dieT M (nI j) = 2 := by unfold dieT; rw [if_pos h, ej, if_pos h5]
      refine jl_catch (A0 := lA Rf oa) (run_VX hC (cJ_X8_dieX2 l G d0 mi Rf ja M E j hj h5 hl9) (As := [.int (nI j)]) (rest := [.int 0, .ref oa]) rfl rfl ml_L_66 im_X8_die se_X8_die ini_X8 cd_X8_die ⟨rfl, na_X8_die⟩ jT_blind (hW.recv hK (show jV M 8 0 from rfl) rfl) (jT_at hX hT9 hRf hW va_S.rf) hl.1 (Nat.le_of_ble_eq_true rfl) ⟨Nat.le_of_ble_eq_true rfl, Nat.le_of_ble_eq_true rfl⟩ ⟨by show 0 + 1 ≤ 1; omega, by show 0 + 6 ≤ 6; omega⟩ rfl dL_die_4) va_S.rf (fun q h => Or.inl h) hC.2.2.2.1 [⟨0, 9, 12, 36⟩] ⟨0, 9, 15, 15⟩ [] htab (fun z hz => by simp only [List.mem_cons, List.not_mem_nil, or_false] at hz; rcases hz with rfl; all_goals first | exact Or.inr ⟨by decide, _, hC.2.2.2.2 _ cl_L_36, hN.2.2⟩) (by decide) (by decide) (hC.2.2.2.2 _ cl_L_15) (va_Nw.use rfl (hT9.2.1 (xISE, xISE) (by decide))) (fun q H locs hz hk hS => ?_)
      have hW := hW.kept (H1 := H) (fun q hq _ => hk q hq)
      have hO : oC G oa v H := va_at.kept hO (hk _ (va_at.lt hO))
      have hF : dieF M (nI j) = thr M 2 := by unfold dieF; rw [if_neg (by rw [hT]; decide), hT]
      refine lv_astore_n (lv' := [(3, .ref q), (0, .ref (ja 8 0)), (1, .int (nI j)), (2, .ref oa)]) hx hb dL_die_15 rfl hl (by decide) rfl (fun ls hl => ?_)
      refine lv_iconst (v := 2) hx hb dL_die_16 (by decide) ?_
      subst hQ
      refine rt_qi (((ja, E), v) : JE × Int64) hx hb hr hlk hS ⟨hT.symm, fun z => by rw [hT] at z; exact absurd z (by decide), rfl, by rw [hF]; exact hCE.set rfl, by rw [hF]; exact (hI.set rfl).Bm (by omega)⟩ (fun t9 ht9 _ => ?_) (by show 0 + 1 ≤ 1; omega) (by show 0 + 6 ≤ 6; omega) dL_die_17
      show WJ G d0 Rf _ _ _ t9.heap ∧ oC G oa _ t9.heap
      rw [ht9, hF]
      exact ⟨hW.gh thr_lk, hO⟩
    · have hT : dieT M (nI j) = 0 := by unfold dieT; rw [if_pos h, ej, if_neg h5]
      have hlk9 := die_lk (M := M) (r := j) (by omega) hT
      refine va_calli (run_V hC (cJ_X8_die l G d0 mi Rf ja M E j c0 hj ec0 hc0 h5) (As := [.int (nI j)]) (rest := [.int 0, .ref oa]) rfl rfl ml_L_66 im_X8_die se_X8_die ini_X8 cd_X8_die ⟨rfl, na_X8_die⟩ jB_blind (hW.recv hK (show jV M 8 0 from rfl) rfl) (jB_at hX hRf hW va_S.rf) hl.1 (Nat.le_of_ble_eq_true rfl) ⟨Nat.le_of_ble_eq_true rfl, Nat.le_of_ble_eq_true rfl⟩ ⟨by show 0 + 0 ≤ 1; omega, by show 0 + 0 ≤ 6; omega⟩ rfl dL_die_4) va_S.rf (fun _ _ h => h) (fun _ h => h) (fun r u t H1 locs1 ht _ hp hB hz1 _ hS => ?_)
      rw [ht] at hB
      have hO : oC G oa v H1 := va_at.kept hO (hS.2.1 _ (va_at.lt hO) (fun z => z hRo))
      have hp1 := hp.1
      have hW := WJ.gh (M' := dieF M (nI j)) hB (fun k hk => by rw [dw_lk]; exact hlk9 k (gh_ne hk rfl))
      refine lv_i2l hx hb dL_die_7 rfl ?_
      refine r2_lst hC hK (A := lA Rf oa) hO (S_lA hS) (Or.inr rfl) dL_die_8 (fun H locs hO hz hoq hS => ?_)
      have hW := hW.kept (H1 := H) (fun q hq hnR => hoq q (fun e9 => hnR (by rw [e9]; exact hRo)))
      refine lv_goto (tgt := 18) hx hb dL_die_9 (by decide) ?_
      refine lv_iconst (v := 0) hx hb dL_die_18 (by decide) ?_
      subst hQ
      exact rt_qi (((ja, eD_ E (fun q => if q = c0 then true else eD E q)), r.toInt64) : JE × Int64) hx hb hr hlk hS ⟨hT.symm, fun _ => congrArg Int32.toInt64 (hp1.trans (by rw [dw_lk]; unfold dieR; rw [if_pos hT, ej]; unfold dieX; rw [bec_21, if_neg (by decide), mset_s, upd_s])), rfl, (CE_die hCE hI hj ec0 hc0).cg (fun k hk => hlk9 k (fun q => by rw [q] at hk; cases hk)), ((INV_die hI hj).cg (fun k hk => hlk9 k (inv_ne hk rfl))).Bm (by omega)⟩ (fun t9 ht9 _ => by show WJ G d0 Rf _ _ _ t9.heap ∧ oC G oa _ t9.heap; rw [ht9]; exact ⟨hW, hO⟩) (by show 0 + 0 ≤ 1; omega) (by show 0 + 0 ≤ 6; omega) dL_die_19
  · have hT : dieT M x = 1 := by unfold dieT; rw [if_neg h]
    have hno : inB x (nI (nR M)) = false := by simpa using h
    refine jl_catch (A0 := lA Rf oa) (run_VX hC (cJ_X8_dieX1 l G d0 mi Rf ja M E x hno hl9) (As := [.int x]) (rest := [.int 0, .ref oa]) rfl rfl ml_L_66 im_X8_die se_X8_die ini_X8 cd_X8_die ⟨rfl, na_X8_die⟩ jT_blind (hW.recv hK (show jV M 8 0 from rfl) rfl) (jT_at hX hT9 hRf hW va_S.rf) hl.1 (Nat.le_of_ble_eq_true rfl) ⟨Nat.le_of_ble_eq_true rfl, Nat.le_of_ble_eq_true rfl⟩ ⟨by show 0 + 1 ≤ 1; omega, by show 0 + 6 ≤ 6; omega⟩ rfl dL_die_4) va_S.rf (fun q h => Or.inl h) hC.2.2.2.1 [] ⟨0, 9, 12, 36⟩ [⟨0, 9, 15, 15⟩] htab (fun z hz => nomatch hz) (by decide) (by decide) (hC.2.2.2.2 _ cl_L_36) (va_Nw.use rfl (hT9.2.1 (xIOE, xIOE) (by decide))) (fun q H locs hz hk hS => ?_)
    have hW := hW.kept (H1 := H) (fun q hq _ => hk q hq)
    have hO : oC G oa v H := va_at.kept hO (hk _ (va_at.lt hO))
    have hF : dieF M x = thr M 1 := by unfold dieF; rw [if_neg (by rw [hT]; decide), hT]
    refine lv_astore_n (lv' := [(3, .ref q), (0, .ref (ja 8 0)), (1, .int x), (2, .ref oa)]) hx hb dL_die_12 rfl hl (by decide) rfl (fun ls hl => ?_)
    refine lv_iconst (v := 1) hx hb dL_die_13 (by decide) ?_
    subst hQ
    refine rt_qi (((ja, E), v) : JE × Int64) hx hb hr hlk hS ⟨hT.symm, fun z => by rw [hT] at z; exact absurd z (by decide), rfl, by rw [hF]; exact hCE.set rfl, by rw [hF]; exact (hI.set rfl).Bm (by omega)⟩ (fun t9 ht9 _ => ?_) (by show 0 + 1 ≤ 1; omega) (by show 0 + 6 ≤ 6; omega) dL_die_14
    show WJ G d0 Rf _ _ _ t9.heap ∧ oC G oa _ t9.heap
    rw [ht9, hF]
    exact ⟨hW.gh thr_lk, hO⟩
