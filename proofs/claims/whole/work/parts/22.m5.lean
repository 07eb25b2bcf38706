set_option maxHeartbeats 4000000 in
set_option maxRecDepth 100000 in
theorem c9_asksFor (l : Launch) (G : gG) (ma : Nat → Nat) (M : MS) (D : mD) (r : Nat) (hI : mI ma) (hcnt : CNT M) (hr6 : r < 6) (hcell : isC (M 18 r)) (hgoal : goalV M r = -1 ∨ isC (goalV M r)) (hgo : (M 20 r = 2 → ∃ k, k < 30 ∧ M 22 r = nI k ∧ ∃ s, s < 3 ∧ M 14 k = nI s) ∧ (M 20 r = 1 ∨ M 20 r = 4 → ∃ t, t < 16 ∧ M 21 r = nI t)) : Met l yX9_asksFor (wB yX9_asksFor cX9_asksFor 4 none) (rmL 3 0 0) (va_Pc [.ref (ma 0), .int (nI r)] (mB G ma M D)) (mQv G ma none (fun M' => M' = askF M r)) 0 0 (mA ma) := by
  refine st_N (own := RX9) (by decide +kernel) rfl (Nat.le_of_ble_eq_true rfl) ?_
  intro p e s m below meth c ls args Q hQ hC hr hlk hnm hl hP
  obtain ⟨hM, hK⟩ := hP
  have hx := hC.1
  have hb := hC.2.1
  have hl : lv_has ls 4 [(0, .ref (ma 0)), (1, .int (nI r))] := hl
  have hS : va_S (mA ma) s.heap s.heap [] := va_S.rf
  obtain ⟨H, locs, hHe, hLe⟩ : ∃ (H : Heap) (locs : List Loc), H = s.heap ∧ locs = [] := ⟨_, _, rfl, rfl⟩
  rw [← hHe] at hM
  have hS : va_S (mA ma) s.heap H locs := by rw [hHe, hLe]; exact va_S.rf
  suffices hgo : W p l e (rmL 3 0 0) s m args below meth c H locs 0 0 Q (F0 m 0 ls []) by
    rw [hHe, hLe] at hgo
    exact hgo
  clear hHe hLe
  have h6 := hcnt.R6
  have h3 := hcnt.S3
  have h16 := hcnt.T16
  have h10 := hcnt.O10
  obtain ⟨jc, hjc64, hjc⟩ := hcell
  have hxc := ix_nI (n := jc) (by omega)
  refine lv_aload_n hx hb dX9_asksFor_0 rfl (lv_at hl 0 rfl) ?_
  refine lv_iload_n hx hb dX9_asksFor_1 rfl (lv_at hl 1 rfl) ?_
  refine cl_p (run_V hC (c9_goalOf l G ma M D r (by omega) hgo) (As := [.int (nI r)]) (rest := []) rfl rfl ml_X9_186 im_X9_goalOf se_X9_goalOf ini_X9 cd_X9_goalOf ⟨rfl, na_X9_goalOf⟩ mB_blind (mr_recv hK hM) (mr_B hK hM) hl.1 (Nat.le_of_ble_eq_true rfl) ⟨Nat.le_of_ble_eq_true rfl, Nat.le_of_ble_eq_true rfl⟩ ⟨Nat.le_refl _, Nat.le_refl _⟩ rfl dX9_asksFor_2) ?_
  rcases hgoal with hg | ⟨jg, hjg64, hg⟩
  · refine top_i (y := -1) hg ?_
    refine lv_istore_n (lv' := [(2, .int (-1)), (0, .ref (ma 0)), (1, .int (nI r))]) hx hb dX9_asksFor_5 rfl hl (by decide) rfl (fun ls hl => ?_)
    refine lv_aload_n hx hb dX9_asksFor_6 rfl (lv_at hl 1 rfl) ?_
    refine ms_get hC hK hM 24 (by decide) fl_X9_62 rfl (v := .ref (ma 24)) rfl (fun q => rfl) dX9_asksFor_7 ?_
    refine lv_iload_n hx hb dX9_asksFor_10 rfl (lv_at hl 2 rfl) ?_
    refine ms_ild hC hK hM 24 (i := r) (show r < 6 from by omega) (by decide) rfl rfl (v := M 24 r) rfl dX9_asksFor_11 ?_
    refine lv_istore_n (lv' := [(3, .int (M 24 r)), (2, .int (-1)), (0, .ref (ma 0)), (1, .int (nI r))]) hx hb dX9_asksFor_12 rfl hl (by decide) rfl (fun ls hl => ?_)
    refine lv_aload_n hx hb dX9_asksFor_13 rfl (lv_at hl 2 rfl) ?_
    refine ms_get hC hK hM 24 (by decide) fl_X9_62 rfl (v := .ref (ma 24)) rfl (fun q => rfl) dX9_asksFor_14 ?_
    refine lv_iload_n hx hb dX9_asksFor_17 rfl (lv_at hl 3 rfl) ?_
    refine lv_iconst (v := (-1)) hx hb dX9_asksFor_18 (by decide) ?_
    refine ms_ist hC hK hI hM hS 24 (mA_k (by decide)) (i := r) (show r < 6 from by omega) rfl rfl dX9_asksFor_19 (fun H locs hM hS => ?_)
    refine lv_iload_n hx hb dX9_asksFor_20 rfl (lv_at hl 1 rfl) ?_
    refine lv_iconst (v := (-1)) hx hb dX9_asksFor_21 (by decide) ?_
    refine lv_icmp_eq (tgt := 150) hx hb dX9_asksFor_22 (by decide) (fun _ => ?_) (fun c => absurd c (by decide))
    subst hQ
    exact rt_mv hx hb hr hlk hM.none hS  (by rw [askF, if_neg (fun q => q.1 hg)]) dX9_asksFor_150
  · refine top_i (y := nI jg) hg ?_
    have hxg := ix_nI (n := jg) (by omega)
    refine lv_istore_n (lv' := [(2, .int (nI jg)), (0, .ref (ma 0)), (1, .int (nI r))]) hx hb dX9_asksFor_5 rfl hl (by decide) rfl (fun ls hl => ?_)
    refine lv_aload_n hx hb dX9_asksFor_6 rfl (lv_at hl 1 rfl) ?_
    refine ms_get hC hK hM 24 (by decide) fl_X9_62 rfl (v := .ref (ma 24)) rfl (fun q => rfl) dX9_asksFor_7 ?_
    refine lv_iload_n hx hb dX9_asksFor_10 rfl (lv_at hl 2 rfl) ?_
    refine ms_ild hC hK hM 24 (i := r) (show r < 6 from by omega) (by decide) rfl rfl (v := M 24 r) rfl dX9_asksFor_11 ?_
    refine lv_istore_n (lv' := [(3, .int (M 24 r)), (2, .int (nI jg)), (0, .ref (ma 0)), (1, .int (nI r))]) hx hb dX9_asksFor_12 rfl hl (by decide) rfl (fun ls hl => ?_)
    refine lv_aload_n hx hb dX9_asksFor_13 rfl (lv_at hl 2 rfl) ?_
    refine ms_get hC hK hM 24 (by decide) fl_X9_62 rfl (v := .ref (ma 24)) rfl (fun q => rfl) dX9_asksFor_14 ?_
    refine lv_iload_n hx hb dX9_asksFor_17 rfl (lv_at hl 3 rfl) ?_
    refine lv_iconst (v := (-1)) hx hb dX9_asksFor_18 (by decide) ?_
    refine ms_ist hC hK hI hM hS 24 (mA_k (by decide)) (i := r) (show r < 6 from by omega) rfl rfl dX9_asksFor_19 (fun H locs hM hS => ?_)
    refine lv_iload_n hx hb dX9_asksFor_20 rfl (lv_at hl 1 rfl) ?_
    refine lv_iconst (v := (-1)) hx hb dX9_asksFor_21 (by decide) ?_
    refine lv_icmp_eq (tgt := 150) hx hb dX9_asksFor_22 (by decide) (fun c => absurd c (nI_m1 (by omega))) (fun _ => ?_)
    refine lv_iload_n hx hb dX9_asksFor_25 rfl (lv_at hl 1 rfl) ?_
    refine lv_aload_n hx hb dX9_asksFor_26 rfl (lv_at hl 2 rfl) ?_
    refine ms_get hC hK hM 18 (by decide) fl_X9_44 rfl (v := .ref (ma 18)) rfl (fun q => rfl) dX9_asksFor_27 ?_
    refine lv_iload_n hx hb dX9_asksFor_30 rfl (lv_at hl 3 rfl) ?_
    refine ms_ild hC hK hM 18 (i := r) (show r < 6 from by omega) (by decide) rfl rfl (v := nI jc) hjc dX9_asksFor_31 ?_
    refine ln_eq (tgt := 150) (a := jg) (b := jc) hx hb dX9_asksFor_32 (by decide) rfl rfl (by omega) (by omega) (fun c_3t => ?_) (fun c_3f => ?_)
    · subst hQ
      exact rt_mv hx hb hr hlk hM.none hS  (by rw [askF, if_neg (fun q => q.2 (by rw [hg, hjc, c_3t]))]) dX9_asksFor_150
    · have hcond : ¬ goalV M r = -1 ∧ ¬ goalV M r = M 18 r := ⟨by rw [hg]; exact nI_m1 (by omega), by rw [hg, hjc]; exact fun q => c_3f ((nI_eqI (by omega) (by omega)).mp q)⟩
      have e1 : ix (goalV M r) = jg := by rw [hg]; exact hxg
      have e2 : ix (M 18 r) = jc := by rw [hjc]; exact hxc
      refine lv_aload_n hx hb dX9_asksFor_35 rfl (lv_at hl 2 rfl) ?_
      refine lv_iload_n hx hb dX9_asksFor_36 rfl (lv_at hl 1 rfl) ?_
      refine lv_aload_n hx hb dX9_asksFor_37 rfl (lv_at hl 2 rfl) ?_
      refine ms_get hC hK hM 23 (by decide) fl_X9_59 rfl (v := .ref (ma 23)) rfl (fun q => rfl) dX9_asksFor_38 ?_
      refine lv_iload_n hx hb dX9_asksFor_41 rfl (lv_at hl 3 rfl) ?_
      refine ms_ild hC hK hM 23 (i := r) (show r < 6 from by omega) (by decide) rfl rfl (v := M 23 r) rfl dX9_asksFor_42 ?_
      refine mcl_v (run_V hC (c9_lays l G ma (mset M 24 r (-1)) D jg (M 23 r) hI (hcnt.set rfl) (by omega)) (As := [.int (nI jg), .int (M 23 r)]) (rest := []) rfl rfl ml_X9_124 im_X9_lays se_X9_lays ini_X9 cd_X9_lays ⟨rfl, na_X9_lays⟩ mB_blind (mr_recv hK hM) (mr_B hK hM) hl.1 (Nat.le_of_ble_eq_true rfl) ⟨Nat.le_of_ble_eq_true rfl, Nat.le_of_ble_eq_true rfl⟩ ⟨Nat.le_refl _, Nat.le_refl _⟩ rfl dX9_asksFor_43) hS (fun _ h => h) (fun M4 H locs hp4 hM hS => ?_)
      rw [hp4] at hM
      refine lv_aload_n hx hb dX9_asksFor_46 rfl (lv_at hl 2 rfl) ?_
      refine ms_get hC hK hM 24 (by decide) fl_X9_62 rfl (v := .ref (ma 24)) rfl (fun q => rfl) dX9_asksFor_47 ?_
      refine lv_iload_n hx hb dX9_asksFor_50 rfl (lv_at hl 3 rfl) ?_
      refine lv_aload_n hx hb dX9_asksFor_51 rfl (lv_at hl 2 rfl) ?_
      refine lv_aload_n hx hb dX9_asksFor_52 rfl (lv_at hl 2 rfl) ?_
      refine ms_get hC hK hM 18 (by decide) fl_X9_44 rfl (v := .ref (ma 18)) rfl (fun q => rfl) dX9_asksFor_53 ?_
      refine lv_iload_n hx hb dX9_asksFor_56 rfl (lv_at hl 3 rfl) ?_
      refine ms_ild hC hK hM 18 (i := r) (show r < 6 from by omega) (by decide) rfl rfl (v := nI jc) hjc dX9_asksFor_57 ?_
      refine cl_pi (x := nearV M (M 23 r) jg jc) (run_V hC (c9_nearest l G ma (mset M 24 r (-1)) (dS (frX (mset M 24 r (-1)) (M 23 r)) jg) jc (by omega) (fun c n hc h => by have := dS_64 hjg64 hc h; omega)) (As := [.int (nI jc)]) (rest := [.int (nI r), .ref (ma 24)]) rfl rfl ml_X9_128 im_X9_nearest se_X9_nearest ini_X9 cd_X9_nearest ⟨rfl, na_X9_nearest⟩ mB_blind (mr_recv hK hM) (mr_B hK hM) hl.1 (Nat.le_of_ble_eq_true rfl) ⟨Nat.le_of_ble_eq_true rfl, Nat.le_of_ble_eq_true rfl⟩ ⟨Nat.le_refl _, Nat.le_refl _⟩ rfl dX9_asksFor_58) (rfl) ?_
      refine ms_ist hC hK hI hM hS 24 (mA_k (by decide)) (i := r) (show r < 6 from by omega) rfl rfl dX9_asksFor_61 (fun H locs hM hS => ?_)
      refine lv_aload_n hx hb dX9_asksFor_62 rfl (lv_at hl 2 rfl) ?_
      refine ms_get hC hK hM 24 (by decide) fl_X9_62 rfl (v := .ref (ma 24)) rfl (fun q => rfl) dX9_asksFor_63 ?_
      refine lv_iload_n hx hb dX9_asksFor_66 rfl (lv_at hl 3 rfl) ?_
      refine ms_ild hC hK hM 24 (i := r) (show r < 6 from by omega) (by decide) rfl rfl (v := nearV M (M 23 r) jg jc) (by simp [mset, upd]) dX9_asksFor_67 ?_
      refine lv_iconst (v := (-1)) hx hb dX9_asksFor_68 (by decide) ?_
      refine lv_icmp_ne (tgt := 111) hx hb dX9_asksFor_69 (by decide) (fun c_5t => ?_) (fun c_5f => ?_)
      · refine lv_aload_n hx hb dX9_asksFor_111 rfl (lv_at hl 2 rfl) ?_
        refine ms_get hC hK hM 25 (by decide) fl_X9_65 rfl (v := .ref (ma 25)) rfl (fun q => rfl) dX9_asksFor_112 ?_
        refine lv_iload_n hx hb dX9_asksFor_115 rfl (lv_at hl 3 rfl) ?_
        refine lv_aload_n hx hb dX9_asksFor_116 rfl (lv_at hl 2 rfl) ?_
        refine ms_get hC hK hM 24 (by decide) fl_X9_62 rfl (v := .ref (ma 24)) rfl (fun q => rfl) dX9_asksFor_117 ?_
        refine lv_iload_n hx hb dX9_asksFor_120 rfl (lv_at hl 3 rfl) ?_
        refine ms_ild hC hK hM 24 (i := r) (show r < 6 from by omega) (by decide) rfl rfl (v := nearV M (M 23 r) jg jc) (by simp [mset, upd]) dX9_asksFor_121 ?_
        refine lv_iconst (v := (-1)) hx hb dX9_asksFor_122 (by decide) ?_
        refine lv_icmp_eq (tgt := 145) hx hb dX9_asksFor_123 (by decide) (fun c_6t => ?_) (fun c_6f => ?_)
        · refine lv_aload_n hx hb dX9_asksFor_145 rfl (lv_at hl 2 rfl) ?_
          refine ms_get hC hK hM 1 (by decide) fl_X9_171 rfl (v := .int (M 1 0)) rfl (fun q => rfl) dX9_asksFor_146 ?_
          refine ms_ist hC hK hI hM hS 25 (mA_k (by decide)) (i := r) (show r < 6 from by omega) rfl rfl dX9_asksFor_149 (fun H locs hM hS => ?_)
          subst hQ
          exact rt_mv hx hb hr hlk hM.none hS  (by rw [askF, if_pos hcond]; dsimp only; rw [e1, e2, if_neg (fun q => c_5t q.1), if_neg (fun q => q.1 c_6t)]) dX9_asksFor_150
        · refine lv_aload_n hx hb dX9_asksFor_126 rfl (lv_at hl 2 rfl) ?_
          refine ms_get hC hK hM 24 (by decide) fl_X9_62 rfl (v := .ref (ma 24)) rfl (fun q => rfl) dX9_asksFor_127 ?_
          refine lv_iload_n hx hb dX9_asksFor_130 rfl (lv_at hl 3 rfl) ?_
          refine ms_ild hC hK hM 24 (i := r) (show r < 6 from by omega) (by decide) rfl rfl (v := nearV M (M 23 r) jg jc) (by simp [mset, upd]) dX9_asksFor_131 ?_
          refine lv_iload_n hx hb dX9_asksFor_132 rfl (lv_at hl 0 rfl) ?_
          refine lv_icmp_ne (tgt := 145) hx hb dX9_asksFor_133 (by decide) (fun c_7t => ?_) (fun c_7f => ?_)
          · refine lv_aload_n hx hb dX9_asksFor_145 rfl (lv_at hl 2 rfl) ?_
            refine ms_get hC hK hM 1 (by decide) fl_X9_171 rfl (v := .int (M 1 0)) rfl (fun q => rfl) dX9_asksFor_146 ?_
            refine ms_ist hC hK hI hM hS 25 (mA_k (by decide)) (i := r) (show r < 6 from by omega) rfl rfl dX9_asksFor_149 (fun H locs hM hS => ?_)
            subst hQ
            exact rt_mv hx hb hr hlk hM.none hS  (by rw [askF, if_pos hcond]; dsimp only; rw [e1, e2, if_neg (fun q => c_5t q.1), if_neg (fun q => c_7t q.2)]) dX9_asksFor_150
          · refine lv_aload_n hx hb dX9_asksFor_136 rfl (lv_at hl 2 rfl) ?_
            refine ms_get hC hK hM 25 (by decide) fl_X9_65 rfl (v := .ref (ma 25)) rfl (fun q => rfl) dX9_asksFor_137 ?_
            refine lv_iload_n hx hb dX9_asksFor_140 rfl (lv_at hl 3 rfl) ?_
            refine ms_ild hC hK hM 25 (i := r) (show r < 6 from by omega) (by decide) rfl rfl (v := M 25 r) rfl dX9_asksFor_141 ?_
            refine lv_goto (tgt := 149) hx hb dX9_asksFor_142 (by decide) ?_
            refine ms_ist hC hK hI hM hS 25 (mA_k (by decide)) (i := r) (show r < 6 from by omega) rfl rfl dX9_asksFor_149 (fun H locs hM hS => ?_)
            subst hQ
            exact rt_mv hx hb hr hlk hM.none hS  (by rw [askF, if_pos hcond]; dsimp only; rw [e1, e2, if_neg (fun q => c_5t q.1), if_pos ⟨c_6f, c_7f⟩]) dX9_asksFor_150
      · refine lv_aload_n hx hb dX9_asksFor_72 rfl (lv_at hl 2 rfl) ?_
        refine ms_get hC hK hM 23 (by decide) fl_X9_59 rfl (v := .ref (ma 23)) rfl (fun q => rfl) dX9_asksFor_73 ?_
        refine lv_iload_n hx hb dX9_asksFor_76 rfl (lv_at hl 3 rfl) ?_
        refine ms_ild hC hK hM 23 (i := r) (show r < 6 from by omega) (by decide) rfl rfl (v := M 23 r) rfl dX9_asksFor_77 ?_
        refine lv_iconst (v := (-1)) hx hb dX9_asksFor_78 (by decide) ?_
        refine lv_icmp_eq (tgt := 111) hx hb dX9_asksFor_79 (by decide) (fun c_8t => ?_) (fun c_8f => ?_)
        · refine lv_aload_n hx hb dX9_asksFor_111 rfl (lv_at hl 2 rfl) ?_
          refine ms_get hC hK hM 25 (by decide) fl_X9_65 rfl (v := .ref (ma 25)) rfl (fun q => rfl) dX9_asksFor_112 ?_
          refine lv_iload_n hx hb dX9_asksFor_115 rfl (lv_at hl 3 rfl) ?_
          refine lv_aload_n hx hb dX9_asksFor_116 rfl (lv_at hl 2 rfl) ?_
          refine ms_get hC hK hM 24 (by decide) fl_X9_62 rfl (v := .ref (ma 24)) rfl (fun q => rfl) dX9_asksFor_117 ?_
          refine lv_iload_n hx hb dX9_asksFor_120 rfl (lv_at hl 3 rfl) ?_
          refine ms_ild hC hK hM 24 (i := r) (show r < 6 from by omega) (by decide) rfl rfl (v := nearV M (M 23 r) jg jc) (by simp [mset, upd]) dX9_asksFor_121 ?_
          refine lv_iconst (v := (-1)) hx hb dX9_asksFor_122 (by decide) ?_
          refine lv_icmp_eq (tgt := 145) hx hb dX9_asksFor_123 (by decide) (fun c_9t => ?_) (fun c_9f => ?_)
          · refine lv_aload_n hx hb dX9_asksFor_145 rfl (lv_at hl 2 rfl) ?_
            refine ms_get hC hK hM 1 (by decide) fl_X9_171 rfl (v := .int (M 1 0)) rfl (fun q => rfl) dX9_asksFor_146 ?_
            refine ms_ist hC hK hI hM hS 25 (mA_k (by decide)) (i := r) (show r < 6 from by omega) rfl rfl dX9_asksFor_149 (fun H locs hM hS => ?_)
            subst hQ
            exact rt_mv hx hb hr hlk hM.none hS  (by rw [askF, if_pos hcond]; dsimp only; rw [e1, e2, if_neg (fun q => q.2 c_8t), if_neg (fun q => q.1 c_9t)]) dX9_asksFor_150
          · refine lv_aload_n hx hb dX9_asksFor_126 rfl (lv_at hl 2 rfl) ?_
            refine ms_get hC hK hM 24 (by decide) fl_X9_62 rfl (v := .ref (ma 24)) rfl (fun q => rfl) dX9_asksFor_127 ?_
            refine lv_iload_n hx hb dX9_asksFor_130 rfl (lv_at hl 3 rfl) ?_
            refine ms_ild hC hK hM 24 (i := r) (show r < 6 from by omega) (by decide) rfl rfl (v := nearV M (M 23 r) jg jc) (by simp [mset, upd]) dX9_asksFor_131 ?_
            refine lv_iload_n hx hb dX9_asksFor_132 rfl (lv_at hl 0 rfl) ?_
            refine lv_icmp_ne (tgt := 145) hx hb dX9_asksFor_133 (by decide) (fun c_10t => ?_) (fun c_10f => ?_)
            · refine lv_aload_n hx hb dX9_asksFor_145 rfl (lv_at hl 2 rfl) ?_
              refine ms_get hC hK hM 1 (by decide) fl_X9_171 rfl (v := .int (M 1 0)) rfl (fun q => rfl) dX9_asksFor_146 ?_
              refine ms_ist hC hK hI hM hS 25 (mA_k (by decide)) (i := r) (show r < 6 from by omega) rfl rfl dX9_asksFor_149 (fun H locs hM hS => ?_)
              subst hQ
              exact rt_mv hx hb hr hlk hM.none hS  (by rw [askF, if_pos hcond]; dsimp only; rw [e1, e2, if_neg (fun q => q.2 c_8t), if_neg (fun q => c_10t q.2)]) dX9_asksFor_150
            · refine lv_aload_n hx hb dX9_asksFor_136 rfl (lv_at hl 2 rfl) ?_
              refine ms_get hC hK hM 25 (by decide) fl_X9_65 rfl (v := .ref (ma 25)) rfl (fun q => rfl) dX9_asksFor_137 ?_
              refine lv_iload_n hx hb dX9_asksFor_140 rfl (lv_at hl 3 rfl) ?_
              refine ms_ild hC hK hM 25 (i := r) (show r < 6 from by omega) (by decide) rfl rfl (v := M 25 r) rfl dX9_asksFor_141 ?_
              refine lv_goto (tgt := 149) hx hb dX9_asksFor_142 (by decide) ?_
              refine ms_ist hC hK hI hM hS 25 (mA_k (by decide)) (i := r) (show r < 6 from by omega) rfl rfl dX9_asksFor_149 (fun H locs hM hS => ?_)
              subst hQ
              exact rt_mv hx hb hr hlk hM.none hS  (by rw [askF, if_pos hcond]; dsimp only; rw [e1, e2, if_neg (fun q => q.2 c_8t), if_pos ⟨c_9f, c_10f⟩]) dX9_asksFor_150
        · refine lv_aload_n hx hb dX9_asksFor_82 rfl (lv_at hl 2 rfl) ?_
          refine ms_get hC hK hM 23 (by decide) fl_X9_59 rfl (v := .ref (ma 23)) rfl (fun q => rfl) dX9_asksFor_83 ?_
          refine lv_iload_n hx hb dX9_asksFor_86 rfl (lv_at hl 3 rfl) ?_
          refine lv_iconst (v := (-1)) hx hb dX9_asksFor_87 (by decide) ?_
          refine ms_ist hC hK hI hM hS 23 (mA_k (by decide)) (i := r) (show r < 6 from by omega) rfl rfl dX9_asksFor_88 (fun H locs hM hS => ?_)
          refine lv_aload_n hx hb dX9_asksFor_89 rfl (lv_at hl 2 rfl) ?_
          refine lv_iload_n hx hb dX9_asksFor_90 rfl (lv_at hl 1 rfl) ?_
          refine lv_iconst (v := (-1)) hx hb dX9_asksFor_91 (by decide) ?_
          refine mcl_v (run_V hC (c9_lays l G ma (mset (mset (mset M 24 r (-1)) 24 r (nearV M (M 23 r) jg jc)) 23 r (-1)) (some (dS (frX (mset M 24 r (-1)) (M 23 r)) jg)) jg (-1) hI (((hcnt.set rfl).set rfl).set rfl) (by omega)) (As := [.int (nI jg), .int (-1)]) (rest := []) rfl rfl ml_X9_124 im_X9_lays se_X9_lays ini_X9 cd_X9_lays ⟨rfl, na_X9_lays⟩ mB_blind (mr_recv hK hM) (mr_B hK hM) hl.1 (Nat.le_of_ble_eq_true rfl) ⟨Nat.le_of_ble_eq_true rfl, Nat.le_of_ble_eq_true rfl⟩ ⟨Nat.le_refl _, Nat.le_refl _⟩ rfl dX9_asksFor_92) hS (fun _ h => h) (fun M11 H locs hp11 hM hS => ?_)
          rw [hp11] at hM
          refine lv_aload_n hx hb dX9_asksFor_95 rfl (lv_at hl 2 rfl) ?_
          refine ms_get hC hK hM 24 (by decide) fl_X9_62 rfl (v := .ref (ma 24)) rfl (fun q => rfl) dX9_asksFor_96 ?_
          refine lv_iload_n hx hb dX9_asksFor_99 rfl (lv_at hl 3 rfl) ?_
          refine lv_aload_n hx hb dX9_asksFor_100 rfl (lv_at hl 2 rfl) ?_
          refine lv_aload_n hx hb dX9_asksFor_101 rfl (lv_at hl 2 rfl) ?_
          refine ms_get hC hK hM 18 (by decide) fl_X9_44 rfl (v := .ref (ma 18)) rfl (fun q => rfl) dX9_asksFor_102 ?_
          refine lv_iload_n hx hb dX9_asksFor_105 rfl (lv_at hl 3 rfl) ?_
          refine ms_ild hC hK hM 18 (i := r) (show r < 6 from by omega) (by decide) rfl rfl (v := nI jc) hjc dX9_asksFor_106 ?_
          refine cl_pi (x := nearV M (-1) jg jc) (run_V hC (c9_nearest l G ma (mset (mset (mset M 24 r (-1)) 24 r (nearV M (M 23 r) jg jc)) 23 r (-1)) (dS (frX (mset (mset (mset M 24 r (-1)) 24 r (nearV M (M 23 r) jg jc)) 23 r (-1)) (-1)) jg) jc (by omega) (fun c n hc h => by have := dS_64 hjg64 hc h; omega)) (As := [.int (nI jc)]) (rest := [.int (nI r), .ref (ma 24)]) rfl rfl ml_X9_128 im_X9_nearest se_X9_nearest ini_X9 cd_X9_nearest ⟨rfl, na_X9_nearest⟩ mB_blind (mr_recv hK hM) (mr_B hK hM) hl.1 (Nat.le_of_ble_eq_true rfl) ⟨Nat.le_of_ble_eq_true rfl, Nat.le_of_ble_eq_true rfl⟩ ⟨Nat.le_refl _, Nat.le_refl _⟩ rfl dX9_asksFor_107) (rfl) ?_
          refine ms_ist hC hK hI hM hS 24 (mA_k (by decide)) (i := r) (show r < 6 from by omega) rfl rfl dX9_asksFor_110 (fun H locs hM hS => ?_)
          refine lv_aload_n hx hb dX9_asksFor_111 rfl (lv_at hl 2 rfl) ?_
          refine ms_get hC hK hM 25 (by decide) fl_X9_65 rfl (v := .ref (ma 25)) rfl (fun q => rfl) dX9_asksFor_112 ?_
          refine lv_iload_n hx hb dX9_asksFor_115 rfl (lv_at hl 3 rfl) ?_
          refine lv_aload_n hx hb dX9_asksFor_116 rfl (lv_at hl 2 rfl) ?_
          refine ms_get hC hK hM 24 (by decide) fl_X9_62 rfl (v := .ref (ma 24)) rfl (fun q => rfl) dX9_asksFor_117 ?_
          refine lv_iload_n hx hb dX9_asksFor_120 rfl (lv_at hl 3 rfl) ?_
          refine ms_ild hC hK hM 24 (i := r) (show r < 6 from by omega) (by decide) rfl rfl (v := nearV M (-1) jg jc) (by simp [mset, upd]) dX9_asksFor_121 ?_
          refine lv_iconst (v := (-1)) hx hb dX9_asksFor_122 (by decide) ?_
          refine lv_icmp_eq (tgt := 145) hx hb dX9_asksFor_123 (by decide) (fun c_12t => ?_) (fun c_12f => ?_)
          · refine lv_aload_n hx hb dX9_asksFor_145 rfl (lv_at hl 2 rfl) ?_
            refine ms_get hC hK hM 1 (by decide) fl_X9_171 rfl (v := .int (M 1 0)) rfl (fun q => rfl) dX9_asksFor_146 ?_
            refine ms_ist hC hK hI hM hS 25 (mA_k (by decide)) (i := r) (show r < 6 from by omega) rfl rfl dX9_asksFor_149 (fun H locs hM hS => ?_)
            subst hQ
            exact rt_mv hx hb hr hlk hM.none hS  (by rw [askF, if_pos hcond]; dsimp only; rw [e1, e2, if_pos ⟨c_5f, c_8f⟩, if_neg (fun q => q.1 c_12t)]) dX9_asksFor_150
          · refine lv_aload_n hx hb dX9_asksFor_126 rfl (lv_at hl 2 rfl) ?_
            refine ms_get hC hK hM 24 (by decide) fl_X9_62 rfl (v := .ref (ma 24)) rfl (fun q => rfl) dX9_asksFor_127 ?_
            refine lv_iload_n hx hb dX9_asksFor_130 rfl (lv_at hl 3 rfl) ?_
            refine ms_ild hC hK hM 24 (i := r) (show r < 6 from by omega) (by decide) rfl rfl (v := nearV M (-1) jg jc) (by simp [mset, upd]) dX9_asksFor_131 ?_
            refine lv_iload_n hx hb dX9_asksFor_132 rfl (lv_at hl 0 rfl) ?_
            refine lv_icmp_ne (tgt := 145) hx hb dX9_asksFor_133 (by decide) (fun c_13t => ?_) (fun c_13f => ?_)
            · refine lv_aload_n hx hb dX9_asksFor_145 rfl (lv_at hl 2 rfl) ?_
              refine ms_get hC hK hM 1 (by decide) fl_X9_171 rfl (v := .int (M 1 0)) rfl (fun q => rfl) dX9_asksFor_146 ?_
              refine ms_ist hC hK hI hM hS 25 (mA_k (by decide)) (i := r) (show r < 6 from by omega) rfl rfl dX9_asksFor_149 (fun H locs hM hS => ?_)
              subst hQ
              exact rt_mv hx hb hr hlk hM.none hS  (by rw [askF, if_pos hcond]; dsimp only; rw [e1, e2, if_pos ⟨c_5f, c_8f⟩, if_neg (fun q => c_13t q.2)]) dX9_asksFor_150
            · refine lv_aload_n hx hb dX9_asksFor_136 rfl (lv_at hl 2 rfl) ?_
              refine ms_get hC hK hM 25 (by decide) fl_X9_65 rfl (v := .ref (ma 25)) rfl (fun q => rfl) dX9_asksFor_137 ?_
              refine lv_iload_n hx hb dX9_asksFor_140 rfl (lv_at hl 3 rfl) ?_
              refine ms_ild hC hK hM 25 (i := r) (show r < 6 from by omega) (by decide) rfl rfl (v := M 25 r) rfl dX9_asksFor_141 ?_
              refine lv_goto (tgt := 149) hx hb dX9_asksFor_142 (by decide) ?_
              refine ms_ist hC hK hI hM hS 25 (mA_k (by decide)) (i := r) (show r < 6 from by omega) rfl rfl dX9_asksFor_149 (fun H locs hM hS => ?_)
              subst hQ
              exact rt_mv hx hb hr hlk hM.none hS  (by rw [askF, if_pos hcond]; dsimp only; rw [e1, e2, if_pos ⟨c_5f, c_8f⟩, if_pos ⟨c_12f, c_13f⟩]) dX9_asksFor_150
set_option maxHeartbeats 4000000 in
set_option maxRecDepth 100000 in
theorem c9_moves (l : Launch) (G : gG) (ma : Nat → Nat) (M : MS) (D : mD) (r : Nat) (x : Int32) (hI : mI ma) (hr6 : r < 6) : Met l yX9_moves (wB yX9_moves cX9_moves 3 none) (rmL 0 0 0) (va_Pc [.ref (ma 0), .int (nI r), .int x] (mB G ma M D)) (mQv G ma none (fun M' => M' = mvF M r x)) 0 0 (mA ma) := by
  refine st_N (own := RX9) (by decide +kernel) rfl (Nat.le_of_ble_eq_true rfl) ?_
  intro p e s m below meth c ls args Q hQ hC hr hlk hnm hl hP
  obtain ⟨hM, hK⟩ := hP
  have hx := hC.1
  have hb := hC.2.1
  have hl : lv_has ls 3 [(0, .ref (ma 0)), (1, .int (nI r)), (2, .int x)] := hl
  have hS : va_S (mA ma) s.heap s.heap [] := va_S.rf
  obtain ⟨H, locs, hHe, hLe⟩ : ∃ (H : Heap) (locs : List Loc), H = s.heap ∧ locs = [] := ⟨_, _, rfl, rfl⟩
  rw [← hHe] at hM
  have hS : va_S (mA ma) s.heap H locs := by rw [hHe, hLe]; exact va_S.rf
  suffices hgo : W p l e (rmL 0 0 0) s m args below meth c H locs 0 0 Q (F0 m 0 ls []) by
    rw [hHe, hLe] at hgo
    exact hgo
  clear hHe hLe
  refine lv_aload_n hx hb dX9_moves_0 rfl (lv_at hl 0 rfl) ?_
  refine ms_get hC hK hM 18 (by decide) fl_X9_44 rfl (v := .ref (ma 18)) rfl (fun q => rfl) dX9_moves_1 ?_
  refine lv_iload_n hx hb dX9_moves_4 rfl (lv_at hl 1 rfl) ?_
  refine lv_iload_n hx hb dX9_moves_5 rfl (lv_at hl 2 rfl) ?_
  refine ms_ist hC hK hI hM hS 18 (mA_k (by decide)) (i := r) (show r < 6 from by omega) rfl rfl dX9_moves_6 (fun H locs hM hS => ?_)
  refine lv_aload_n hx hb dX9_moves_7 rfl (lv_at hl 0 rfl) ?_
  refine ms_get hC hK hM 24 (by decide) fl_X9_62 rfl (v := .ref (ma 24)) rfl (fun q => rfl) dX9_moves_8 ?_
  refine lv_iload_n hx hb dX9_moves_11 rfl (lv_at hl 1 rfl) ?_
  refine lv_iconst (v := (-1)) hx hb dX9_moves_12 (by decide) ?_
  refine ms_ist hC hK hI hM hS 24 (mA_k (by decide)) (i := r) (show r < 6 from by omega) rfl rfl dX9_moves_13 (fun H locs hM hS => ?_)
  refine lv_aload_n hx hb dX9_moves_14 rfl (lv_at hl 0 rfl) ?_
  refine ms_get hC hK hM 23 (by decide) fl_X9_59 rfl (v := .ref (ma 23)) rfl (fun q => rfl) dX9_moves_15 ?_
  refine lv_iload_n hx hb dX9_moves_18 rfl (lv_at hl 1 rfl) ?_
  refine lv_iconst (v := (-1)) hx hb dX9_moves_19 (by decide) ?_
  refine ms_ist hC hK hI hM hS 23 (mA_k (by decide)) (i := r) (show r < 6 from by omega) rfl rfl dX9_moves_20 (fun H locs hM hS => ?_)
  refine lv_aload_n hx hb dX9_moves_21 rfl (lv_at hl 0 rfl) ?_
  refine lv_dup hx hb dX9_moves_22 rfl ?_
  refine ms_get hC hK hM 28 (by decide) fl_X9_189 rfl (v := .int (M 28 0)) rfl (fun q => rfl) dX9_moves_23 ?_
  refine lv_iconst (v := 1) hx hb dX9_moves_26 (by decide) ?_
  refine lv_iadd hx hb dX9_moves_27 ?_
  refine ms_put hC hK hI hM hS mA_0 28 (by decide) rfl fl_X9_189 rfl rfl rfl rfl dX9_moves_28 (fun H locs hM hS => ?_)
  subst hQ
  exact rt_mv hx hb hr hlk hM.none hS  (rfl) dX9_moves_31
set_option maxHeartbeats 4000000 in
set_option maxRecDepth 100000 in
theorem c9_nextOf (l : Launch) (G : gG) (ma : Nat → Nat) (M : MS) (D : mD) (r : Nat) (hcnt : CNT M) (hr6 : r < 6) : Met l yX9_nextOf (wB yX9_nextOf cX9_nextOf 2 (some .int)) (rmL 1 0 0) (va_Pc [.ref (ma 0), .int (nI r)] (mB G ma M D)) (k2_QcV (.int (oI (nxtA M r)))) 0 0 fN := by
  refine st_N (own := RX9) (by decide +kernel) rfl (Nat.le_of_ble_eq_true rfl) ?_
  intro p e s m below meth c ls args Q hQ hC hr hlk hnm hl hP
  obtain ⟨hM, hK⟩ := hP
  have hx := hC.1
  have hb := hC.2.1
  have hl : lv_has ls 2 [(0, .ref (ma 0)), (1, .int (nI r))] := hl
  have h6 := hcnt.R6
  have h3 := hcnt.S3
  have h16 := hcnt.T16
  have h10 := hcnt.O10
  refine lv_aload_n hx hb dX9_nextOf_0 rfl (lv_at hl 0 rfl) ?_
  refine ms_get hC hK hM 24 (by decide) fl_X9_62 rfl (v := .ref (ma 24)) rfl (fun q => rfl) dX9_nextOf_1 ?_
  refine lv_iload_n hx hb dX9_nextOf_4 rfl (lv_at hl 1 rfl) ?_
  refine ms_ild hC hK hM 24 (i := r) (show r < 6 from by omega) (by decide) rfl rfl (v := M 24 r) rfl dX9_nextOf_5 ?_
  refine lv_iconst (v := (-1)) hx hb dX9_nextOf_6 (by decide) ?_
  refine lv_icmp_ne (tgt := 14) hx hb dX9_nextOf_7 (by decide) (fun c_1t => ?_) (fun c_1f => ?_)
  · refine lv_aload_n hx hb dX9_nextOf_14 rfl (lv_at hl 0 rfl) ?_
    refine lv_aload_n hx hb dX9_nextOf_15 rfl (lv_at hl 0 rfl) ?_
    refine ms_get hC hK hM 24 (by decide) fl_X9_62 rfl (v := .ref (ma 24)) rfl (fun q => rfl) dX9_nextOf_16 ?_
    refine lv_iload_n hx hb dX9_nextOf_19 rfl (lv_at hl 1 rfl) ?_
    refine ms_ild hC hK hM 24 (i := r) (show r < 6 from by omega) (by decide) rfl rfl (v := M 24 r) rfl dX9_nextOf_20 ?_
    refine cl_p (run_V hC (c9_robotAt l G ma M D (M 24 r) hcnt) (As := [.int (M 24 r)]) (rest := []) rfl rfl ml_X9_112 im_X9_robotAt se_X9_robotAt ini_X9 cd_X9_robotAt ⟨rfl, na_X9_robotAt⟩ mB_blind (mr_recv hK hM) (mr_B hK hM) hl.1 (Nat.le_of_ble_eq_true rfl) ⟨Nat.le_of_ble_eq_true rfl, Nat.le_of_ble_eq_true rfl⟩ ⟨Nat.le_refl _, Nat.le_refl _⟩ rfl dX9_nextOf_21) ?_
    subst hQ
    exact rt_i hx hb hr hlk (by rw [nxtA, if_neg c_1t]) dX9_nextOf_24
  · refine lv_iconst (v := (-1)) hx hb dX9_nextOf_10 (by decide) ?_
    refine lv_goto (tgt := 24) hx hb dX9_nextOf_11 (by decide) ?_
    subst hQ
    exact rt_i hx hb hr hlk (by rw [nxtA, if_pos c_1f]; rfl) dX9_nextOf_24
set_option maxHeartbeats 4000000 in
set_option maxRecDepth 100000 in
theorem c9_ringOf (l : Launch) (G : gG) (ma : Nat → Nat) (M : MS) (D : mD) (r : Nat) (hcnt : CNT M) (hr6 : r < nR M) : Met l yX9_ringOf (wB yX9_ringOf cX9_ringOf 4 (some .int)) (rmL 2 0 0) (va_Pc [.ref (ma 0), .int (nI r)] (mB G ma M D)) (k2_QcV (.int (nI (rgN M r)))) 0 0 fN := by
  refine st_N (own := RX9) (by decide +kernel) rfl (Nat.le_of_ble_eq_true rfl) ?_
  intro p e s m below meth c ls args Q hQ hC hr hlk hnm hl hP
  obtain ⟨hM, hK⟩ := hP
  have hx := hC.1
  have hb := hC.2.1
  have hl : lv_has ls 4 [(0, .ref (ma 0)), (1, .int (nI r))] := hl
  have h6 := hcnt.R6
  have h3 := hcnt.S3
  have h16 := hcnt.T16
  have h10 := hcnt.O10
  refine lv_iconst (v := 1) hx hb dX9_ringOf_0 (by decide) ?_
  refine lv_istore_n (lv' := [(2, .int 1), (0, .ref (ma 0)), (1, .int (nI r))]) hx hb dX9_ringOf_1 rfl hl (by decide) rfl (fun ls hl => ?_)
  refine lv_aload_n hx hb dX9_ringOf_2 rfl (lv_at hl 1 rfl) ?_
  refine lv_iload_n hx hb dX9_ringOf_3 rfl (lv_at hl 2 rfl) ?_
  refine cl_p (run_V hC (c9_nextOf l G ma M D r hcnt (by omega)) (As := [.int (nI r)]) (rest := []) rfl rfl ml_X9_192 im_X9_nextOf se_X9_nextOf ini_X9 cd_X9_nextOf ⟨rfl, na_X9_nextOf⟩ mB_blind (mr_recv hK hM) (mr_B hK hM) hl.1 (Nat.le_of_ble_eq_true rfl) ⟨Nat.le_of_ble_eq_true rfl, Nat.le_of_ble_eq_true rfl⟩ ⟨Nat.le_refl _, Nat.le_refl _⟩ rfl dX9_ringOf_4) ?_
  refine lv_istore_n (lv' := [(3, .int (oI (nxtA M r))), (2, .int 1), (0, .ref (ma 0)), (1, .int (nI r))]) hx hb dX9_ringOf_7 rfl hl (by decide) rfl (fun ls hl => ?_)
  have loop1 : ∀ (n_ : Nat) (n : Nat) (a : Option Nat) (f : Nat) (ls : Array Slot) (hf : f + n = 7) (hn1 : 1 ≤ n) (hn6 : n ≤ 6) (hres : rgN M r = rgS M r f n a) (ha : ∀ q, a = some q → q < nR M), f < n_ → lv_has ls 4 [(2, .int (nI n)), (3, .int (oI a)), (0, .ref (ma 0)), (1, .int (nI r))] → W p l e (rmL 2 0 0) s m args below meth c s.heap [] 0 0 Q (F0 m 8 ls []) := by
    intro n_
    induction n_ with
    | zero => intro n a f ls hf hn1 hn6 hres ha hm hl; omega
    | succ n_ ih1 =>
      intro n a f ls hf hn1 hn6 hres ha hm hl
      obtain ⟨f9, rfl⟩ : ∃ f9, f = f9 + 1 := ⟨f - 1, by omega⟩
      rcases hq2 : a with _ | p2
      · have hl : lv_has ls 4 [(2, .int (nI n)), (3, .int (-1)), (0, .ref (ma 0)), (1, .int (nI r))] := by rw [hq2] at hl; exact hl
        refine lv_iload_n hx hb dX9_ringOf_8 rfl (lv_at hl 1 rfl) ?_
        refine lv_iload_n hx hb dX9_ringOf_9 rfl (lv_at hl 3 rfl) ?_
        refine lv_icmp_le (tgt := 31) hx hb dX9_ringOf_10 (by decide) (fun _ => ?_) (fun c => absurd (m1_le (by omega)) c)
        refine lv_iload_n hx hb dX9_ringOf_31 rfl (lv_at hl 1 rfl) ?_
        refine lv_iload_n hx hb dX9_ringOf_32 rfl (lv_at hl 3 rfl) ?_
        refine lv_icmp_ne (tgt := 40) hx hb dX9_ringOf_33 (by decide) (fun _ => ?_) (fun c => absurd c.symm (nI_m1 (by omega)))
        refine lv_iconst (v := 0) hx hb dX9_ringOf_40 (by decide) ?_
        subst hQ
        exact rt_i hx hb hr hlk (by rw [hres, hq2]; rfl) dX9_ringOf_41
      · have hl : lv_has ls 4 [(2, .int (nI n)), (3, .int (nI p2)), (0, .ref (ma 0)), (1, .int (nI r))] := by rw [hq2] at hl; exact hl
        have hq6 := ha _ hq2
        refine lv_iload_n hx hb dX9_ringOf_8 rfl (lv_at hl 1 rfl) ?_
        refine lv_iload_n hx hb dX9_ringOf_9 rfl (lv_at hl 3 rfl) ?_
        refine ln_le (tgt := 31) (a := p2) (b := r) hx hb dX9_ringOf_10 (by decide) rfl rfl (by omega) (by omega) (fun c_5t => ?_) (fun c_5f => ?_)
        · refine lv_iload_n hx hb dX9_ringOf_31 rfl (lv_at hl 1 rfl) ?_
          refine lv_iload_n hx hb dX9_ringOf_32 rfl (lv_at hl 3 rfl) ?_
          refine ln_ne (tgt := 40) (a := p2) (b := r) hx hb dX9_ringOf_33 (by decide) rfl rfl (by omega) (by omega) (fun c_6t => ?_) (fun c_6f => ?_)
          · refine lv_iconst (v := 0) hx hb dX9_ringOf_40 (by decide) ?_
            subst hQ
            exact rt_i hx hb hr hlk (by rw [hres, hq2]; simp only [rgS]; rw [if_neg (by omega), if_neg c_6t]; rfl) dX9_ringOf_41
          · refine lv_iload_n hx hb dX9_ringOf_36 rfl (lv_at hl 0 rfl) ?_
            refine lv_goto (tgt := 41) hx hb dX9_ringOf_37 (by decide) ?_
            subst hQ
            exact rt_i hx hb hr hlk (by rw [hres, hq2]; simp only [rgS]; rw [if_neg (by omega), if_pos c_6f]) dX9_ringOf_41
        · refine lv_iload_n hx hb dX9_ringOf_13 rfl (lv_at hl 0 rfl) ?_
          refine lv_bipush (v := 6) hx hb dX9_ringOf_14 (by decide) ?_
          refine ln_ge (tgt := 31) (a := n) (b := 6) hx hb dX9_ringOf_16 (by decide) rfl rfl (by omega) (by omega) (fun c_7t => ?_) (fun c_7f => ?_)
          · refine lv_iload_n hx hb dX9_ringOf_31 rfl (lv_at hl 1 rfl) ?_
            refine lv_iload_n hx hb dX9_ringOf_32 rfl (lv_at hl 3 rfl) ?_
            refine ln_ne (tgt := 40) (a := p2) (b := r) hx hb dX9_ringOf_33 (by decide) rfl rfl (by omega) (by omega) (fun c_8t => ?_) (fun c_8f => ?_)
            · refine lv_iconst (v := 0) hx hb dX9_ringOf_40 (by decide) ?_
              subst hQ
              exact rt_i hx hb hr hlk (by rw [hres, hq2]; simp only [rgS]; rw [if_neg (by omega), if_neg c_8t]; rfl) dX9_ringOf_41
            · refine lv_iload_n hx hb dX9_ringOf_36 rfl (lv_at hl 0 rfl) ?_
              refine lv_goto (tgt := 41) hx hb dX9_ringOf_37 (by decide) ?_
              subst hQ
              exact rt_i hx hb hr hlk (by rw [hres, hq2]; simp only [rgS]; rw [if_neg (by omega), if_pos c_8f]) dX9_ringOf_41
          · refine lv_aload_n hx hb dX9_ringOf_19 rfl (lv_at hl 2 rfl) ?_
            refine lv_iload_n hx hb dX9_ringOf_20 rfl (lv_at hl 1 rfl) ?_
            refine cl_p (run_V hC (c9_nextOf l G ma M D p2 hcnt (by omega)) (As := [.int (nI p2)]) (rest := []) rfl rfl ml_X9_192 im_X9_nextOf se_X9_nextOf ini_X9 cd_X9_nextOf ⟨rfl, na_X9_nextOf⟩ mB_blind (mr_recv hK hM) (mr_B hK hM) hl.1 (Nat.le_of_ble_eq_true rfl) ⟨Nat.le_of_ble_eq_true rfl, Nat.le_of_ble_eq_true rfl⟩ ⟨Nat.le_refl _, Nat.le_refl _⟩ rfl dX9_ringOf_21) ?_
            refine lv_istore_n (lv' := [(3, .int (oI (nxtA M p2))), (2, .int (nI n)), (0, .ref (ma 0)), (1, .int (nI r))]) hx hb dX9_ringOf_24 rfl hl (by decide) rfl (fun ls hl => ?_)
            refine lv_iinc (v := nI (n + 1)) (lv' := [(2, .int (nI (n + 1))), (3, .int (oI (nxtA M p2))), (0, .ref (ma 0)), (1, .int (nI r))]) hx hb dX9_ringOf_25 hl (k := 1) rfl (nI_inc _) (by decide) rfl (fun ls hl => ?_)
            refine lv_goto (tgt := 8) hx hb dX9_ringOf_28 (by decide) ?_
            exact ih1 (n + 1) (nxtA M p2) f9 ls (by omega) (by omega) (by omega) (by rw [hres, hq2]; simp only [rgS]; rw [if_pos (by omega)]) (fun q hq => (nxtA_lt hq).1) (by omega) (lv_sub hl [0, 1, 2, 3] rfl)
  exact loop1 (6 + 1) 1 (nxtA M r) 6 ls (by omega) (by omega) (by omega) rfl (fun q hq => (nxtA_lt hq).1) (by omega) (lv_sub hl [1, 0, 2, 3] rfl)
set_option maxHeartbeats 4000000 in
set_option maxRecDepth 100000 in
theorem c9_isAbove (l : Launch) (G : gG) (ma : Nat → Nat) (M : MS) (D : mD) (a : Nat) (b : Nat) (ha6 : a < 6) (hb6 : b < 6) : Met l yX9_isAbove (wB yX9_isAbove cX9_isAbove 3 (some .boolean)) (rmL 0 0 0) (va_Pc [.ref (ma 0), .int (nI a), .int (nI b)] (mB G ma M D)) (k2_QcV (.int (bI (abvB M a b)))) 0 0 fN := by
  refine st_N (own := RX9) (by decide +kernel) rfl (Nat.le_of_ble_eq_true rfl) ?_
  intro p e s m below meth c ls args Q hQ hC hr hlk hnm hl hP
  obtain ⟨hM, hK⟩ := hP
  have hx := hC.1
  have hb := hC.2.1
  have hl : lv_has ls 3 [(0, .ref (ma 0)), (1, .int (nI a)), (2, .int (nI b))] := hl
  refine lv_aload_n hx hb dX9_isAbove_0 rfl (lv_at hl 0 rfl) ?_
  refine ms_get hC hK hM 19 (by decide) fl_X9_47 rfl (v := .ref (ma 19)) rfl (fun q => rfl) dX9_isAbove_1 ?_
  refine lv_iload_n hx hb dX9_isAbove_4 rfl (lv_at hl 1 rfl) ?_
  refine ms_ild hC hK hM 19 (i := a) (show a < 6 from by omega) (by decide) rfl rfl (v := M 19 a) rfl dX9_isAbove_5 ?_
  refine lv_aload_n hx hb dX9_isAbove_6 rfl (lv_at hl 0 rfl) ?_
  refine ms_get hC hK hM 19 (by decide) fl_X9_47 rfl (v := .ref (ma 19)) rfl (fun q => rfl) dX9_isAbove_7 ?_
  refine lv_iload_n hx hb dX9_isAbove_10 rfl (lv_at hl 2 rfl) ?_
  refine ms_ild hC hK hM 19 (i := b) (show b < 6 from by omega) (by decide) rfl rfl (v := M 19 b) rfl dX9_isAbove_11 ?_
  refine lv_icmp_gt (tgt := 35) hx hb dX9_isAbove_12 (by decide) (fun c_1t => ?_) (fun c_1f => ?_)
  · refine lv_iconst (v := 1) hx hb dX9_isAbove_35 (by decide) ?_
    refine lv_goto (tgt := 40) hx hb dX9_isAbove_36 (by decide) ?_
    subst hQ
    exact rt_z hx hb hr hlk (by simp [abvB, bI, c_1t] <;> omega) dX9_isAbove_40
  · refine lv_aload_n hx hb dX9_isAbove_15 rfl (lv_at hl 0 rfl) ?_
    refine ms_get hC hK hM 19 (by decide) fl_X9_47 rfl (v := .ref (ma 19)) rfl (fun q => rfl) dX9_isAbove_16 ?_
    refine lv_iload_n hx hb dX9_isAbove_19 rfl (lv_at hl 1 rfl) ?_
    refine ms_ild hC hK hM 19 (i := a) (show a < 6 from by omega) (by decide) rfl rfl (v := M 19 a) rfl dX9_isAbove_20 ?_
    refine lv_aload_n hx hb dX9_isAbove_21 rfl (lv_at hl 0 rfl) ?_
    refine ms_get hC hK hM 19 (by decide) fl_X9_47 rfl (v := .ref (ma 19)) rfl (fun q => rfl) dX9_isAbove_22 ?_
    refine lv_iload_n hx hb dX9_isAbove_25 rfl (lv_at hl 2 rfl) ?_
    refine ms_ild hC hK hM 19 (i := b) (show b < 6 from by omega) (by decide) rfl rfl (v := M 19 b) rfl dX9_isAbove_26 ?_
    refine lv_icmp_ne (tgt := 39) hx hb dX9_isAbove_27 (by decide) (fun c_2t => ?_) (fun c_2f => ?_)
    · refine lv_iconst (v := 0) hx hb dX9_isAbove_39 (by decide) ?_
      subst hQ
      exact rt_z hx hb hr hlk (by simp [abvB, bI, c_1f, c_2t] <;> omega) dX9_isAbove_40
    · refine lv_iload_n hx hb dX9_isAbove_30 rfl (lv_at hl 1 rfl) ?_
      refine lv_iload_n hx hb dX9_isAbove_31 rfl (lv_at hl 2 rfl) ?_
      refine ln_ge (tgt := 39) (a := a) (b := b) hx hb dX9_isAbove_32 (by decide) rfl rfl (by omega) (by omega) (fun c_3t => ?_) (fun c_3f => ?_)
      · refine lv_iconst (v := 0) hx hb dX9_isAbove_39 (by decide) ?_
        subst hQ
        exact rt_z hx hb hr hlk (by simp [abvB, bI, c_1f, c_2f, c_3t] <;> omega) dX9_isAbove_40
      · refine lv_iconst (v := 1) hx hb dX9_isAbove_35 (by decide) ?_
        refine lv_goto (tgt := 40) hx hb dX9_isAbove_36 (by decide) ?_
        subst hQ
        exact rt_z hx hb hr hlk (by simp [abvB, bI, c_1f, c_2f, c_3f] <;> omega) dX9_isAbove_40
set_option maxHeartbeats 4000000 in
set_option maxRecDepth 100000 in
theorem c9_yieldsTo (l : Launch) (G : gG) (ma : Nat → Nat) (M : MS) (D : mD) (r : Nat) (o : Nat) (hI : mI ma) (hcnt : CNT M) (hr6 : r < 6) (ho6 : o < 6) (hcell : isC (M 18 r)) (hgc : isC (goalV M r)) (hgo : (M 20 r = 2 → ∃ k, k < 30 ∧ M 22 r = nI k ∧ ∃ s, s < 3 ∧ M 14 k = nI s) ∧ (M 20 r = 1 ∨ M 20 r = 4 → ∃ t, t < 16 ∧ M 21 r = nI t)) : Met l yX9_yieldsTo (wB yX9_yieldsTo cX9_yieldsTo 4 (some .boolean)) (rmL 3 0 0) (va_Pc [.ref (ma 0), .int (nI r), .int (nI o)] (mB G ma M D)) (mQi G ma none (fun q M' => q = bI (yldB M r o) ∧ M' = if yldB M r o = true then yldG M r o else M)) 0 0 (mA ma) := by
  refine st_N (own := RX9) (by decide +kernel) rfl (Nat.le_of_ble_eq_true rfl) ?_
  intro p e s m below meth c ls args Q hQ hC hr hlk hnm hl hP
  obtain ⟨hM, hK⟩ := hP
  have hx := hC.1
  have hb := hC.2.1
  have hl : lv_has ls 4 [(0, .ref (ma 0)), (1, .int (nI r)), (2, .int (nI o))] := hl
  have hS : va_S (mA ma) s.heap s.heap [] := va_S.rf
  obtain ⟨H, locs, hHe, hLe⟩ : ∃ (H : Heap) (locs : List Loc), H = s.heap ∧ locs = [] := ⟨_, _, rfl, rfl⟩
  rw [← hHe] at hM
  have hS : va_S (mA ma) s.heap H locs := by rw [hHe, hLe]; exact va_S.rf
  suffices hgo : W p l e (rmL 3 0 0) s m args below meth c H locs 0 0 Q (F0 m 0 ls []) by
    rw [hHe, hLe] at hgo
    exact hgo
  clear hHe hLe
  have h6 := hcnt.R6
  have h3 := hcnt.S3
  have h16 := hcnt.T16
  have h10 := hcnt.O10
  obtain ⟨jc, hjc64, hjc⟩ := hcell
  have hxc := ix_nI (n := jc) (by omega)
  obtain ⟨jg, hjg64, hg⟩ := hgc
  have hxg := ix_nI (n := jg) (by omega)
  refine lv_aload_n hx hb dX9_yieldsTo_0 rfl (lv_at hl 0 rfl) ?_
  refine lv_aload_n hx hb dX9_yieldsTo_1 rfl (lv_at hl 0 rfl) ?_
  refine lv_iload_n hx hb dX9_yieldsTo_2 rfl (lv_at hl 1 rfl) ?_
  refine cl_pi (x := nI jg) (run_V hC (c9_goalOf l G ma M D r (by omega) hgo) (As := [.int (nI r)]) (rest := [.ref (ma 0)]) rfl rfl ml_X9_186 im_X9_goalOf se_X9_goalOf ini_X9 cd_X9_goalOf ⟨rfl, na_X9_goalOf⟩ mB_blind (mr_recv hK hM) (mr_B hK hM) hl.1 (Nat.le_of_ble_eq_true rfl) ⟨Nat.le_of_ble_eq_true rfl, Nat.le_of_ble_eq_true rfl⟩ ⟨Nat.le_refl _, Nat.le_refl _⟩ rfl dX9_yieldsTo_3) (hg) ?_
  refine lv_aload_n hx hb dX9_yieldsTo_6 rfl (lv_at hl 0 rfl) ?_
  refine ms_get hC hK hM 18 (by decide) fl_X9_44 rfl (v := .ref (ma 18)) rfl (fun q => rfl) dX9_yieldsTo_7 ?_
  refine lv_iload_n hx hb dX9_yieldsTo_10 rfl (lv_at hl 2 rfl) ?_
  refine ms_ild hC hK hM 18 (i := o) (show o < 6 from by omega) (by decide) rfl rfl (v := M 18 o) rfl dX9_yieldsTo_11 ?_
  refine mcl_v (run_V hC (c9_lays l G ma M D jg (M 18 o) hI hcnt (by omega)) (As := [.int (nI jg), .int (M 18 o)]) (rest := []) rfl rfl ml_X9_124 im_X9_lays se_X9_lays ini_X9 cd_X9_lays ⟨rfl, na_X9_lays⟩ mB_blind (mr_recv hK hM) (mr_B hK hM) hl.1 (Nat.le_of_ble_eq_true rfl) ⟨Nat.le_of_ble_eq_true rfl, Nat.le_of_ble_eq_true rfl⟩ ⟨Nat.le_refl _, Nat.le_refl _⟩ rfl dX9_yieldsTo_12) hS (fun _ h => h) (fun M1 H locs hp1 hM hS => ?_)
  rw [hp1] at hM
  refine lv_aload_n hx hb dX9_yieldsTo_15 rfl (lv_at hl 0 rfl) ?_
  refine lv_aload_n hx hb dX9_yieldsTo_16 rfl (lv_at hl 0 rfl) ?_
  refine ms_get hC hK hM 18 (by decide) fl_X9_44 rfl (v := .ref (ma 18)) rfl (fun q => rfl) dX9_yieldsTo_17 ?_
  refine lv_iload_n hx hb dX9_yieldsTo_20 rfl (lv_at hl 1 rfl) ?_
  refine ms_ild hC hK hM 18 (i := r) (show r < 6 from by omega) (by decide) rfl rfl (v := nI jc) hjc dX9_yieldsTo_21 ?_
  refine cl_p (run_V hC (c9_nearest l G ma M (dS (frX M (M 18 o)) jg) jc (by omega) (fun c n hc h => by have := dS_64 hjg64 hc h; omega)) (As := [.int (nI jc)]) (rest := []) rfl rfl ml_X9_128 im_X9_nearest se_X9_nearest ini_X9 cd_X9_nearest ⟨rfl, na_X9_nearest⟩ mB_blind (mr_recv hK hM) (mr_B hK hM) hl.1 (Nat.le_of_ble_eq_true rfl) ⟨Nat.le_of_ble_eq_true rfl, Nat.le_of_ble_eq_true rfl⟩ ⟨Nat.le_refl _, Nat.le_refl _⟩ rfl dX9_yieldsTo_22) ?_
  rcases hb2 : nrst (dS (frX M (M 18 o)) jg) jc with _ | p2
  · refine top_i (y := -1) rfl ?_
    refine lv_iconst (v := (-1)) hx hb dX9_yieldsTo_25 (by decide) ?_
    refine lv_icmp_eq (tgt := 33) hx hb dX9_yieldsTo_26 (by decide) (fun _ => ?_) (fun c => absurd c (by decide))
    refine lv_iconst (v := 0) hx hb dX9_yieldsTo_33 (by decide) ?_
    refine lv_istore_n (lv' := [(3, .int 0), (0, .ref (ma 0)), (1, .int (nI r)), (2, .int (nI o))]) hx hb dX9_yieldsTo_34 rfl hl (by decide) rfl (fun ls hl => ?_)
    refine lv_iload_n hx hb dX9_yieldsTo_35 rfl (lv_at hl 0 rfl) ?_
    refine lv_if_eq (tgt := 68) hx hb dX9_yieldsTo_36 (by decide) (fun _ => ?_) (fun c => absurd c (by decide))
    refine lv_iload_n hx hb dX9_yieldsTo_68 rfl (lv_at hl 0 rfl) ?_
    subst hQ
    exact rt_mz false hx hb hr hlk hM.none hS rfl  (by simp [yldB, yldG, hjc, hxc, hg, hxg, bI, hb2]) dX9_yieldsTo_69
  · refine top_i (y := nI p2.1) rfl ?_
    have hq64 := bst_nb hjc64 (Nat.le_refl 4) hb2
    have hq640 := hq64.1
    refine lv_iconst (v := (-1)) hx hb dX9_yieldsTo_25 (by decide) ?_
    refine lv_icmp_eq (tgt := 33) hx hb dX9_yieldsTo_26 (by decide) (fun c => absurd c (nI_m1 (by omega))) (fun _ => ?_)
    refine lv_iconst (v := 1) hx hb dX9_yieldsTo_29 (by decide) ?_
    refine lv_goto (tgt := 34) hx hb dX9_yieldsTo_30 (by decide) ?_
    refine lv_istore_n (lv' := [(3, .int 1), (0, .ref (ma 0)), (1, .int (nI r)), (2, .int (nI o))]) hx hb dX9_yieldsTo_34 rfl hl (by decide) rfl (fun ls hl => ?_)
    refine lv_iload_n hx hb dX9_yieldsTo_35 rfl (lv_at hl 0 rfl) ?_
    refine lv_if_eq (tgt := 68) hx hb dX9_yieldsTo_36 (by decide) (fun c => absurd c (by decide)) (fun _ => ?_)
    refine lv_aload_n hx hb dX9_yieldsTo_39 rfl (lv_at hl 1 rfl) ?_
    refine ms_get hC hK hM 23 (by decide) fl_X9_59 rfl (v := .ref (ma 23)) rfl (fun q => rfl) dX9_yieldsTo_40 ?_
    refine lv_iload_n hx hb dX9_yieldsTo_43 rfl (lv_at hl 2 rfl) ?_
    refine lv_aload_n hx hb dX9_yieldsTo_44 rfl (lv_at hl 1 rfl) ?_
    refine ms_get hC hK hM 18 (by decide) fl_X9_44 rfl (v := .ref (ma 18)) rfl (fun q => rfl) dX9_yieldsTo_45 ?_
    refine lv_iload_n hx hb dX9_yieldsTo_48 rfl (lv_at hl 3 rfl) ?_
    refine ms_ild hC hK hM 18 (i := o) (show o < 6 from by omega) (by decide) rfl rfl (v := M 18 o) rfl dX9_yieldsTo_49 ?_
    refine ms_ist hC hK hI hM hS 23 (mA_k (by decide)) (i := r) (show r < 6 from by omega) rfl rfl dX9_yieldsTo_50 (fun H locs hM hS => ?_)
    refine lv_aload_n hx hb dX9_yieldsTo_51 rfl (lv_at hl 1 rfl) ?_
    refine ms_get hC hK hM 24 (by decide) fl_X9_62 rfl (v := .ref (ma 24)) rfl (fun q => rfl) dX9_yieldsTo_52 ?_
    refine lv_iload_n hx hb dX9_yieldsTo_55 rfl (lv_at hl 2 rfl) ?_
    refine lv_iconst (v := (-1)) hx hb dX9_yieldsTo_56 (by decide) ?_
    refine ms_ist hC hK hI hM hS 24 (mA_k (by decide)) (i := r) (show r < 6 from by omega) rfl rfl dX9_yieldsTo_57 (fun H locs hM hS => ?_)
    refine lv_aload_n hx hb dX9_yieldsTo_58 rfl (lv_at hl 1 rfl) ?_
    refine lv_dup hx hb dX9_yieldsTo_59 rfl ?_
    refine ms_get hC hK hM 30 (by decide) fl_X9_195 rfl (v := .int (M 30 0)) rfl (fun q => rfl) dX9_yieldsTo_60 ?_
    refine lv_iconst (v := 1) hx hb dX9_yieldsTo_63 (by decide) ?_
    refine lv_iadd hx hb dX9_yieldsTo_64 ?_
    refine ms_put hC hK hI hM hS mA_0 30 (by decide) rfl fl_X9_195 rfl rfl rfl rfl dX9_yieldsTo_65 (fun H locs hM hS => ?_)
    refine lv_iload_n hx hb dX9_yieldsTo_68 rfl (lv_at hl 0 rfl) ?_
    subst hQ
    exact rt_mz true hx hb hr hlk hM.none hS rfl  (by simp [yldB, yldG, hjc, hxc, hg, hxg, bI, hb2]) dX9_yieldsTo_69
set_option maxHeartbeats 4000000 in
set_option maxRecDepth 100000 in
theorem c9_isAsked (l : Launch) (G : gG) (ma : Nat → Nat) (M : MS) (D : mD) (x : Int32) (hcnt : CNT M) : Met l yX9_isAsked (wB yX9_isAsked cX9_isAsked 4 (some .boolean)) (rmL 0 0 0) (va_Pc [.ref (ma 0), .int x] (mB G ma M D)) (k2_QcV (.int (bI (askdB M x)))) 0 0 fN := by
  refine st_N (own := RX9) (by decide +kernel) rfl (Nat.le_of_ble_eq_true rfl) ?_
  intro p e s m below meth c ls args Q hQ hC hr hlk hnm hl hP
  obtain ⟨hM, hK⟩ := hP
  have hx := hC.1
  have hb := hC.2.1
  have hl : lv_has ls 4 [(0, .ref (ma 0)), (1, .int x)] := hl
  have h6 := hcnt.R6
  have h3 := hcnt.S3
  have h16 := hcnt.T16
  have h10 := hcnt.O10
  refine lv_iconst (v := 0) hx hb dX9_isAsked_0 (by decide) ?_
  refine lv_istore_n (lv' := [(2, .int 0), (0, .ref (ma 0)), (1, .int x)]) hx hb dX9_isAsked_1 rfl hl (by decide) rfl (fun ls hl => ?_)
  refine lv_iconst (v := 0) hx hb dX9_isAsked_2 (by decide) ?_
  refine lv_istore_n (lv' := [(3, .int 0), (2, .int 0), (0, .ref (ma 0)), (1, .int x)]) hx hb dX9_isAsked_3 rfl hl (by decide) rfl (fun ls hl => ?_)
  have loop1 : ∀ (n_ : Nat) (r : Nat) (ls : Array Slot) (hrn : r ≤ nR M), nR M - r < n_ → lv_has ls 4 [(3, .int (nI r)), (2, .int (bI (anyB (fun q => decide (M 24 q = x)) r))), (0, .ref (ma 0)), (1, .int x)] → W p l e (rmL 0 0 0) s m args below meth c s.heap [] 0 0 Q (F0 m 4 ls []) := by
    intro n_
    induction n_ with
    | zero => intro r ls hrn hm hl; omega
    | succ n_ ih1 =>
      intro r ls hrn hm hl
      refine lv_iload_n hx hb dX9_isAsked_4 rfl (lv_at hl 0 rfl) ?_
      refine lv_aload_n hx hb dX9_isAsked_5 rfl (lv_at hl 2 rfl) ?_
      refine ms_get hC hK hM 17 (by decide) fl_X9_103 rfl (v := .int (nI (nR M))) (congrArg Value.int (show M 17 0 = (nI (nR M)) from hcnt.R)) (fun q => rfl) dX9_isAsked_6 ?_
      refine ln_ge (tgt := 38) (a := r) (b := (nR M)) hx hb dX9_isAsked_9 (by decide) rfl rfl (by omega) (by omega) (fun c_2t => ?_) (fun c_2f => ?_)
      · refine lv_iload_n hx hb dX9_isAsked_38 rfl (lv_at hl 1 rfl) ?_
        subst hQ
        exact rt_z hx hb hr hlk (by rw [askdB, show r = nR M by omega]) dX9_isAsked_39
      · refine lv_iload_n hx hb dX9_isAsked_12 rfl (lv_at hl 1 rfl) ?_
        refine lb_ne (tgt := 26) (b := (anyB (fun q => decide (M 24 q = x)) r)) hx hb dX9_isAsked_13 (by decide) (fun c_3t => ?_) (fun c_3f => ?_)
        · refine lv_iconst (v := 1) hx hb dX9_isAsked_26 (by decide) ?_
          refine lv_goto (tgt := 31) hx hb dX9_isAsked_27 (by decide) ?_
          refine lv_istore_n (lv' := [(2, .int 1), (3, .int (nI r)), (0, .ref (ma 0)), (1, .int x)]) hx hb dX9_isAsked_31 rfl hl (by decide) rfl (fun ls hl => ?_)
          have hsum : 1 = bI (anyB (fun q => decide (M 24 q = x)) (r + 1)) := by simp [anyB, bI, c_2f, c_3t]
          rw [hsum] at hl
          have hl : lv_has ls 4 [(2, .int (bI (anyB (fun q => decide (M 24 q = x)) (r + 1)))), (3, .int (nI r)), (0, .ref (ma 0)), (1, .int x)] := hl
          refine lv_iinc (v := nI (r + 1)) (lv' := [(3, .int (nI (r + 1))), (2, .int (bI (anyB (fun q => decide (M 24 q = x)) (r + 1)))), (0, .ref (ma 0)), (1, .int x)]) hx hb dX9_isAsked_32 hl (k := 1) rfl (nI_inc _) (by decide) rfl (fun ls hl => ?_)
          refine lv_goto (tgt := 4) hx hb dX9_isAsked_35 (by decide) ?_
          exact ih1 (r + 1) ls (by omega) (by omega) (lv_sub hl [0, 1, 2, 3] rfl)
        · refine lv_aload_n hx hb dX9_isAsked_16 rfl (lv_at hl 2 rfl) ?_
          refine ms_get hC hK hM 24 (by decide) fl_X9_62 rfl (v := .ref (ma 24)) rfl (fun q => rfl) dX9_isAsked_17 ?_
          refine lv_iload_n hx hb dX9_isAsked_20 rfl (lv_at hl 0 rfl) ?_
          refine ms_ild hC hK hM 24 (i := r) (show r < 6 from by omega) (by decide) rfl rfl (v := M 24 r) rfl dX9_isAsked_21 ?_
          refine lv_iload_n hx hb dX9_isAsked_22 rfl (lv_at hl 3 rfl) ?_
          refine lv_icmp_ne (tgt := 30) hx hb dX9_isAsked_23 (by decide) (fun c_4t => ?_) (fun c_4f => ?_)
          · refine lv_iconst (v := 0) hx hb dX9_isAsked_30 (by decide) ?_
            refine lv_istore_n (lv' := [(2, .int 0), (3, .int (nI r)), (0, .ref (ma 0)), (1, .int x)]) hx hb dX9_isAsked_31 rfl hl (by decide) rfl (fun ls hl => ?_)
            have hsum : 0 = bI (anyB (fun q => decide (M 24 q = x)) (r + 1)) := by simp [anyB, bI, c_2f, c_3f, c_4t]
            rw [hsum] at hl
            have hl : lv_has ls 4 [(2, .int (bI (anyB (fun q => decide (M 24 q = x)) (r + 1)))), (3, .int (nI r)), (0, .ref (ma 0)), (1, .int x)] := hl
            refine lv_iinc (v := nI (r + 1)) (lv' := [(3, .int (nI (r + 1))), (2, .int (bI (anyB (fun q => decide (M 24 q = x)) (r + 1)))), (0, .ref (ma 0)), (1, .int x)]) hx hb dX9_isAsked_32 hl (k := 1) rfl (nI_inc _) (by decide) rfl (fun ls hl => ?_)
            refine lv_goto (tgt := 4) hx hb dX9_isAsked_35 (by decide) ?_
            exact ih1 (r + 1) ls (by omega) (by omega) (lv_sub hl [0, 1, 2, 3] rfl)
          · refine lv_iconst (v := 1) hx hb dX9_isAsked_26 (by decide) ?_
            refine lv_goto (tgt := 31) hx hb dX9_isAsked_27 (by decide) ?_
            refine lv_istore_n (lv' := [(2, .int 1), (3, .int (nI r)), (0, .ref (ma 0)), (1, .int x)]) hx hb dX9_isAsked_31 rfl hl (by decide) rfl (fun ls hl => ?_)
            have hsum : 1 = bI (anyB (fun q => decide (M 24 q = x)) (r + 1)) := by simp [anyB, bI, c_2f, c_3f, c_4f]
            rw [hsum] at hl
            have hl : lv_has ls 4 [(2, .int (bI (anyB (fun q => decide (M 24 q = x)) (r + 1)))), (3, .int (nI r)), (0, .ref (ma 0)), (1, .int x)] := hl
            refine lv_iinc (v := nI (r + 1)) (lv' := [(3, .int (nI (r + 1))), (2, .int (bI (anyB (fun q => decide (M 24 q = x)) (r + 1)))), (0, .ref (ma 0)), (1, .int x)]) hx hb dX9_isAsked_32 hl (k := 1) rfl (nI_inc _) (by decide) rfl (fun ls hl => ?_)
            refine lv_goto (tgt := 4) hx hb dX9_isAsked_35 (by decide) ?_
            exact ih1 (r + 1) ls (by omega) (by omega) (lv_sub hl [0, 1, 2, 3] rfl)
  exact loop1 ((nR M - 0) + 1) 0 ls (by omega) (by omega) (lv_sub hl [0, 1, 2, 3] rfl)
set_option maxHeartbeats 4000000 in
set_option maxRecDepth 100000 in
theorem c9_arrives (l : Launch) (G : gG) (ma : Nat → Nat) (M : MS) (D : mD) (r : Nat) (hI : mI ma) (hr6 : r < 6) (hgo : (M 20 r = 2 → ∃ k, k < 30 ∧ M 22 r = nI k ∧ ∃ s, s < 3 ∧ M 14 k = nI s) ∧ (M 20 r = 1 ∨ M 20 r = 4 → ∃ t, t < 16 ∧ M 21 r = nI t)) : Met l yX9_arrives (wB yX9_arrives cX9_arrives 3 none) (rmL 1 0 0) (va_Pc [.ref (ma 0), .int (nI r)] (mB G ma M D)) (mQv G ma none (fun M' => M' = arrF M r)) 0 0 (mA ma) := by
  refine st_N (own := RX9) (by decide +kernel) rfl (Nat.le_of_ble_eq_true rfl) ?_
  intro p e s m below meth c ls args Q hQ hC hr hlk hnm hl hP
  obtain ⟨hM, hK⟩ := hP
  have hx := hC.1
  have hb := hC.2.1
  have hl : lv_has ls 3 [(0, .ref (ma 0)), (1, .int (nI r))] := hl
  have hS : va_S (mA ma) s.heap s.heap [] := va_S.rf
  obtain ⟨H, locs, hHe, hLe⟩ : ∃ (H : Heap) (locs : List Loc), H = s.heap ∧ locs = [] := ⟨_, _, rfl, rfl⟩
  rw [← hHe] at hM
  have hS : va_S (mA ma) s.heap H locs := by rw [hHe, hLe]; exact va_S.rf
  suffices hgo : W p l e (rmL 1 0 0) s m args below meth c H locs 0 0 Q (F0 m 0 ls []) by
    rw [hHe, hLe] at hgo
    exact hgo
  clear hHe hLe
  refine lv_aload_n hx hb dX9_arrives_0 rfl (lv_at hl 0 rfl) ?_
  refine ms_get hC hK hM 20 (by decide) fl_X9_50 rfl (v := .ref (ma 20)) rfl (fun q => rfl) dX9_arrives_1 ?_
  refine lv_iload_n hx hb dX9_arrives_4 rfl (lv_at hl 1 rfl) ?_
  refine ms_ild hC hK hM 20 (i := r) (show r < 6 from by omega) (by decide) rfl rfl (v := M 20 r) rfl dX9_arrives_5 ?_
  refine lv_istore_n (lv' := [(2, .int (M 20 r)), (0, .ref (ma 0)), (1, .int (nI r))]) hx hb dX9_arrives_6 rfl hl (by decide) rfl (fun ls hl => ?_)
  refine lv_aload_n hx hb dX9_arrives_7 rfl (lv_at hl 1 rfl) ?_
  refine lv_iload_n hx hb dX9_arrives_8 rfl (lv_at hl 2 rfl) ?_
  refine cl_p (run_V hC (c9_goalOf l G ma M D r (by omega) hgo) (As := [.int (nI r)]) (rest := []) rfl rfl ml_X9_186 im_X9_goalOf se_X9_goalOf ini_X9 cd_X9_goalOf ⟨rfl, na_X9_goalOf⟩ mB_blind (mr_recv hK hM) (mr_B hK hM) hl.1 (Nat.le_of_ble_eq_true rfl) ⟨Nat.le_of_ble_eq_true rfl, Nat.le_of_ble_eq_true rfl⟩ ⟨Nat.le_refl _, Nat.le_refl _⟩ rfl dX9_arrives_9) ?_
  refine lv_aload_n hx hb dX9_arrives_12 rfl (lv_at hl 1 rfl) ?_
  refine ms_get hC hK hM 18 (by decide) fl_X9_44 rfl (v := .ref (ma 18)) rfl (fun q => rfl) dX9_arrives_13 ?_
  refine lv_iload_n hx hb dX9_arrives_16 rfl (lv_at hl 2 rfl) ?_
  refine ms_ild hC hK hM 18 (i := r) (show r < 6 from by omega) (by decide) rfl rfl (v := M 18 r) rfl dX9_arrives_17 ?_
  refine lv_icmp_ne (tgt := 45) hx hb dX9_arrives_18 (by decide) (fun c_1t => ?_) (fun c_1f => ?_)
  · subst hQ
    exact rt_mv hx hb hr hlk hM.none hS  (by simp [arrF, c_1t]) dX9_arrives_45
  · refine lv_aload_n hx hb dX9_arrives_21 rfl (lv_at hl 1 rfl) ?_
    refine lv_iload_n hx hb dX9_arrives_22 rfl (lv_at hl 2 rfl) ?_
    refine lv_iload_n hx hb dX9_arrives_23 rfl (lv_at hl 0 rfl) ?_
    refine lv_iconst (v := 1) hx hb dX9_arrives_24 (by decide) ?_
    refine lv_icmp_ne (tgt := 32) hx hb dX9_arrives_25 (by decide) (fun c_2t => ?_) (fun c_2f => ?_)
    · refine lv_iload_n hx hb dX9_arrives_32 rfl (lv_at hl 0 rfl) ?_
      refine lv_iconst (v := 2) hx hb dX9_arrives_33 (by decide) ?_
      refine lv_icmp_ne (tgt := 41) hx hb dX9_arrives_34 (by decide) (fun c_3t => ?_) (fun c_3f => ?_)
      · refine lv_iconst (v := 0) hx hb dX9_arrives_41 (by decide) ?_
        refine mcl_v (run_V hC (c9_becomes l G ma M D r 0 hI (by omega)) (As := [.int (nI r), .int 0]) (rest := []) rfl rfl ml_X9_162 im_X9_becomes se_X9_becomes ini_X9 cd_X9_becomes ⟨rfl, na_X9_becomes⟩ mB_blind (mr_recv hK hM) (mr_B hK hM) hl.1 (Nat.le_of_ble_eq_true rfl) ⟨Nat.le_of_ble_eq_true rfl, Nat.le_of_ble_eq_true rfl⟩ ⟨Nat.le_refl _, Nat.le_refl _⟩ rfl dX9_arrives_42) hS (fun _ h => h) (fun M4 H locs hp4 hM hS => ?_)
        rw [hp4] at hM
        subst hQ
        exact rt_mv hx hb hr hlk hM.none hS  (by simp [arrF, c_1f, c_2t, c_3t]) dX9_arrives_45
      · refine lv_iconst (v := 3) hx hb dX9_arrives_37 (by decide) ?_
        refine lv_goto (tgt := 42) hx hb dX9_arrives_38 (by decide) ?_
        refine mcl_v (run_V hC (c9_becomes l G ma M D r 3 hI (by omega)) (As := [.int (nI r), .int 3]) (rest := []) rfl rfl ml_X9_162 im_X9_becomes se_X9_becomes ini_X9 cd_X9_becomes ⟨rfl, na_X9_becomes⟩ mB_blind (mr_recv hK hM) (mr_B hK hM) hl.1 (Nat.le_of_ble_eq_true rfl) ⟨Nat.le_of_ble_eq_true rfl, Nat.le_of_ble_eq_true rfl⟩ ⟨Nat.le_refl _, Nat.le_refl _⟩ rfl dX9_arrives_42) hS (fun _ h => h) (fun M5 H locs hp5 hM hS => ?_)
        rw [hp5] at hM
        subst hQ
        exact rt_mv hx hb hr hlk hM.none hS  (by simp [arrF, c_1f, c_2t, c_3f]) dX9_arrives_45
    · refine lv_iconst (v := 2) hx hb dX9_arrives_28 (by decide) ?_
      refine lv_goto (tgt := 42) hx hb dX9_arrives_29 (by decide) ?_
      refine mcl_v (run_V hC (c9_becomes l G ma M D r 2 hI (by omega)) (As := [.int (nI r), .int 2]) (rest := []) rfl rfl ml_X9_162 im_X9_becomes se_X9_becomes ini_X9 cd_X9_becomes ⟨rfl, na_X9_becomes⟩ mB_blind (mr_recv hK hM) (mr_B hK hM) hl.1 (Nat.le_of_ble_eq_true rfl) ⟨Nat.le_of_ble_eq_true rfl, Nat.le_of_ble_eq_true rfl⟩ ⟨Nat.le_refl _, Nat.le_refl _⟩ rfl dX9_arrives_42) hS (fun _ h => h) (fun M6 H locs hp6 hM hS => ?_)
      rw [hp6] at hM
      subst hQ
      exact rt_mv hx hb hr hlk hM.none hS  (by simp [arrF, c_1f, c_2f]) dX9_arrives_45
