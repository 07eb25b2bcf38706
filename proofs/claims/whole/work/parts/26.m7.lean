theorem goGo_row (M : MS) {j : Nat} : ∀ t, (j ≠ 18 ∧ j ≠ 24 ∧ j ≠ 23 ∧ j ≠ 28) → (goGo M t).1 j = M j
  | 0, _ => rfl
  | t + 1, h => by
    unfold goGo
    cases selG (goGo M t).1 (goGo M t).2 (nR M) with
    | none => exact goGo_row M t h
    | some f =>
      dsimp only
      split
      · unfold mvF
        rw [mset_n _ _ _ h.2.2.2, mset_n _ _ _ h.2.2.1, mset_n _ _ _ h.2.1, mset_n _ _ _ h.1]
        exact goGo_row M t h
      · exact goGo_row M t h
theorem goGo_17 (M : MS) (t : Nat) : (goGo M t).1 17 = M 17 := goGo_row M t (by decide)
theorem cnt_scr {k : Nat} (h : cntRow k = true) : scr k = false := by
  simp only [cntRow, Bool.or_eq_true, beq_iff_eq] at h
  rcases h with (((rfl | rfl) | rfl) | rfl) | rfl <;> rfl
theorem cnt_40 {k : Nat} (h : cntRow k = true) : k < 40 := by
  simp only [cntRow, Bool.or_eq_true, beq_iff_eq] at h
  omega
theorem cnt_mv {k : Nat} (h : cntRow k = true) : k ≠ 18 ∧ k ≠ 24 ∧ k ≠ 23 ∧ k ≠ 28 := by
  simp only [cntRow, Bool.or_eq_true, beq_iff_eq] at h
  omega
set_option maxHeartbeats 4000000 in
set_option maxRecDepth 100000 in
theorem c9_goes (l : Launch) (G : gG) (ma : Nat → Nat) (M : MS) (D : mD) (hI : mI ma) (hcnt : CNT M) : Met l yX9_goes (wB yX9_goes cX9_goes 5 none) (rmL 3 0 0) (va_Pc [.ref (ma 0)] (mB G ma M D)) (mQv G ma none (fun M' => M' = goF M)) 0 0 (mA ma) := by
  refine st_N (own := RX9) (by decide +kernel) rfl (Nat.le_of_ble_eq_true rfl) ?_
  intro p e s m below meth c ls args Q hQ hC hr hlk hnm hl hP
  obtain ⟨hM, hK⟩ := hP
  have hx := hC.1
  have hb := hC.2.1
  have hl : lv_has ls 5 [(0, .ref (ma 0))] := hl
  have hS : va_S (mA ma) s.heap s.heap [] := va_S.rf
  obtain ⟨H, locs, hHe, hLe⟩ : ∃ (H : Heap) (locs : List Loc), H = s.heap ∧ locs = [] := ⟨_, _, rfl, rfl⟩
  rw [← hHe] at hM
  have hS : va_S (mA ma) s.heap H locs := by rw [hHe, hLe]; exact va_S.rf
  suffices hgo : W p l e (rmL 3 0 0) s m args below meth c H locs 0 0 Q (F0 m 0 ls []) by
    rw [hHe, hLe] at hgo
    exact hgo
  clear hHe hLe
  have h6 := hcnt.R6
  obtain ⟨M0, hs, -, hM⟩ := hM
  refine lv_iconst (v := 0) hx hb dX9_goes_0 (by decide) ?_
  refine lv_istore_n (lv' := [(1, .int 0), (0, .ref (ma 0))]) hx hb dX9_goes_1 rfl hl (by decide) rfl (fun ls hl => ?_)
  have loop1 : ∀ (n_ : Nat) (k : Nat) (M1 : MS) (H : Heap) (locs : List Loc) (ls : Array Slot) (hk : k ≤ 6) (hs1 : ∀ k9, scr k9 = false → k9 < 40 → M1 k9 = M k9) (h1 : ∀ c, c < k → M1 26 c = bI (dn0 M c)) (hM : WM G ma M1 H) (hS : va_S (mA ma) s.heap H locs), 6 - k < n_ → lv_has ls 5 [(1, .int (nI k)), (0, .ref (ma 0))] → W p l e (rmL 3 0 0) s m args below meth c H locs 0 0 Q (F0 m 2 ls []) := by
    intro n_
    induction n_ with
    | zero => intro k M1 H locs ls hk hs1 h1 hM hS hm hl; omega
    | succ n_ ih1 =>
      intro k M1 H locs ls hk hs1 h1 hM hS hm hl
      refine lv_iload_n hx hb dX9_goes_2 rfl (lv_at hl 0 rfl) ?_
      refine lv_bipush (v := 6) hx hb dX9_goes_3 (by decide) ?_
      refine ln_ge (tgt := 43) (a := k) (b := 6) hx hb dX9_goes_5 (by decide) rfl rfl (by omega) (by omega) (fun c_2t => ?_) (fun c_2f => ?_)
      · refine lv_iconst (v := 0) hx hb dX9_goes_43 (by decide) ?_
        refine lv_istore_n (lv' := [(1, .int 0), (0, .ref (ma 0))]) hx hb dX9_goes_44 rfl hl (by decide) rfl (fun ls hl => ?_)
        have loop3 : ∀ (n_ : Nat) (t : Nat) (Mt : MS) (dn : Nat → Bool) (M2 : MS) (H : Heap) (locs : List Loc) (ls : Array Slot) (htt : t ≤ nR M) (hg : goGo M t = (Mt, dn)) (hs2 : ∀ k9, scr k9 = false → k9 < 40 → M2 k9 = Mt k9) (hd2 : ∀ c, c < 6 → M2 26 c = bI (dn c)) (hM : WM G ma M2 H) (hS : va_S (mA ma) s.heap H locs), nR M - t < n_ → lv_has ls 5 [(1, .int (nI t)), (0, .ref (ma 0))] → W p l e (rmL 3 0 0) s m args below meth c H locs 0 0 Q (F0 m 45 ls []) := by
          intro n_
          induction n_ with
          | zero => intro t Mt dn M2 H locs ls htt hg hs2 hd2 hM hS hm hl; omega
          | succ n_ ih3 =>
            intro t Mt dn M2 H locs ls htt hg hs2 hd2 hM hS hm hl
            have e17 : Mt 17 = M 17 := by rw [show Mt = (goGo M t).1 by rw [hg]]; exact goGo_17 M t
            have eRt : nR Mt = nR M := by unfold nR; rw [e17]
            have hcnt2 : CNT M2 := hcnt.congr (fun k hk => by rw [hs2 k (cnt_scr hk) (cnt_40 hk), show Mt = (goGo M t).1 by rw [hg]]; exact goGo_row M t (cnt_mv hk))
            refine lv_iload_n hx hb dX9_goes_45 rfl (lv_at hl 0 rfl) ?_
            refine lv_aload_n hx hb dX9_goes_46 rfl (lv_at hl 1 rfl) ?_
            refine mr_get hC hK hM 17 (by decide) fl_X9_103 rfl (v := .int (nI (nR M))) (congrArg Value.int (show M2 17 0 = (nI (nR M)) from (by rw [hs2 17 rfl (by decide), e17]; exact hcnt.R))) dX9_goes_47 ?_
            refine ln_ge (tgt := 185) (a := t) (b := (nR M)) hx hb dX9_goes_50 (by decide) rfl rfl (by omega) (by omega) (fun c_4t => ?_) (fun c_4f => ?_)
            · subst hQ
              exact rt_mv hx hb hr hlk (show WS G ma (goF M) none H from ⟨_, (by unfold goF; rw [← show t = nR M by omega, hg]; exact hs2), (fun _ h => (nomatch h)), hM⟩) hS  (rfl) dX9_goes_185
            · refine lv_iconst (v := (-1)) hx hb dX9_goes_53 (by decide) ?_
              refine lv_istore_n (lv' := [(2, .int (-1)), (1, .int (nI t)), (0, .ref (ma 0))]) hx hb dX9_goes_54 rfl hl (by decide) rfl (fun ls hl => ?_)
              refine lv_iconst (v := 0) hx hb dX9_goes_55 (by decide) ?_
              refine lv_istore_n (lv' := [(3, .int 0), (2, .int (-1)), (1, .int (nI t)), (0, .ref (ma 0))]) hx hb dX9_goes_56 rfl hl (by decide) rfl (fun ls hl => ?_)
              have loop5 : ∀ (n_ : Nat) (k : Nat) (b : Option Nat) (ls : Array Slot) (hk : k ≤ nR M) (hbb : b = selG Mt dn k) (hb6 : ∀ j, b = some j → j < k), nR M - k < n_ → lv_has ls 5 [(3, .int (nI k)), (2, .int (oI b)), (1, .int (nI t)), (0, .ref (ma 0))] → W p l e (rmL 3 0 0) s m args below meth c H locs 0 0 Q (F0 m 57 ls []) := by
                intro n_
                induction n_ with
                | zero => intro k b ls hk hbb hb6 hm hl; omega
                | succ n_ ih5 =>
                  intro k b ls hk hbb hb6 hm hl
                  refine lv_iload_n hx hb dX9_goes_57 rfl (lv_at hl 0 rfl) ?_
                  refine lv_aload_n hx hb dX9_goes_58 rfl (lv_at hl 3 rfl) ?_
                  refine mr_get hC hK hM 17 (by decide) fl_X9_103 rfl (v := .int (nI (nR M))) (congrArg Value.int (show M2 17 0 = (nI (nR M)) from (by rw [hs2 17 rfl (by decide), e17]; exact hcnt.R))) dX9_goes_59 ?_
                  refine ln_ge (tgt := 142) (a := k) (b := (nR M)) hx hb dX9_goes_62 (by decide) rfl rfl (by omega) (by omega) (fun c_6t => ?_) (fun c_6f => ?_)
                  · rcases hq7 : b with _ | p7
                    · have hl : lv_has ls 5 [(3, .int (nI k)), (2, .int (-1)), (1, .int (nI t)), (0, .ref (ma 0))] := by rw [hq7] at hl; exact hl
                      have hsel : selG Mt dn (nR M) = none := by rw [← hq7, hbb, show k = nR M by omega]
                      refine lv_iload_n hx hb dX9_goes_142 rfl (lv_at hl 1 rfl) ?_
                      refine lv_iconst (v := (-1)) hx hb dX9_goes_143 (by decide) ?_
                      refine lv_icmp_eq (tgt := 179) hx hb dX9_goes_144 (by decide) (fun _ => ?_) (fun c => absurd c (by decide))
                      refine lv_iinc (v := nI (t + 1)) (lv' := [(1, .int (nI (t + 1))), (3, .int (nI k)), (2, .int (-1)), (0, .ref (ma 0))]) hx hb dX9_goes_179 hl (k := 2) rfl (nI_inc _) (by decide) rfl (fun ls hl => ?_)
                      refine lv_goto (tgt := 45) hx hb dX9_goes_182 (by decide) ?_
                      exact ih3 (t + 1) Mt dn M2 H locs ls (by omega) (goGo_none hg hsel) hs2 hd2 hM hS (by omega) (lv_sub hl [0, 3] rfl)
                    · have hl : lv_has ls 5 [(3, .int (nI k)), (2, .int (nI p7)), (1, .int (nI t)), (0, .ref (ma 0))] := by rw [hq7] at hl; exact hl
                      have hsel : selG Mt dn (nR M) = some p7 := by rw [← hq7, hbb, show k = nR M by omega]
                      have hq6 := hb6 _ hq7
                      refine lv_iload_n hx hb dX9_goes_142 rfl (lv_at hl 1 rfl) ?_
                      refine lv_iconst (v := (-1)) hx hb dX9_goes_143 (by decide) ?_
                      refine lv_icmp_eq (tgt := 179) hx hb dX9_goes_144 (by decide) (fun c => absurd c (nI_m1 (by omega))) (fun _ => ?_)
                      refine lv_aload_n hx hb dX9_goes_147 rfl (lv_at hl 3 rfl) ?_
                      refine mr_get hC hK hM 26 (by decide) fl_X9_68 rfl (v := .ref (ma 26)) rfl dX9_goes_148 ?_
                      refine lv_iload_n hx hb dX9_goes_151 rfl (lv_at hl 1 rfl) ?_
                      refine lv_iconst (v := 1) hx hb dX9_goes_152 (by decide) ?_
                      refine mr_zst hC hK hI hM hS 26 (mA_k (by decide)) (i := p7) (show p7 < 6 from by omega) rfl true rfl dX9_goes_153 (fun H locs hM hS => ?_)
                      refine lv_aload_n hx hb dX9_goes_154 rfl (lv_at hl 3 rfl) ?_
                      refine lv_aload_n hx hb dX9_goes_155 rfl (lv_at hl 3 rfl) ?_
                      refine mr_get hC hK hM 24 (by decide) fl_X9_62 rfl (v := .ref (ma 24)) rfl dX9_goes_156 ?_
                      refine lv_iload_n hx hb dX9_goes_159 rfl (lv_at hl 1 rfl) ?_
                      refine mr_ild hC hK hM 24 (i := p7) (show p7 < 6 from by omega) rfl (v := Mt 24 p7) (by rw [mset_n _ _ _ (by decide), hs2 24 rfl (by decide)]) dX9_goes_160 ?_
                      refine cl_pi (x := oI (rbA Mt (Mt 24 p7))) (run_V hC (c9_robotAt l G ma (mset M2 26 p7 (bI true)) none (Mt 24 p7) (hcnt2.set rfl)) (As := [.int (Mt 24 p7)]) (rest := []) rfl rfl ml_X9_112 im_X9_robotAt se_X9_robotAt ini_X9 cd_X9_robotAt ⟨rfl, na_X9_robotAt⟩ mB_blind (mr_recv hK (WS.of hM)) (mr_B hK (WS.of hM)) hl.1 (Nat.le_of_ble_eq_true rfl) ⟨Nat.le_of_ble_eq_true rfl, Nat.le_of_ble_eq_true rfl⟩ ⟨Nat.le_refl _, Nat.le_refl _⟩ rfl dX9_goes_161) (congrArg oI (rbA_cg (sc_set rfl hs2) _)) ?_
                      rcases ho10 : rbA Mt (Mt 24 p7) with _ | k10
                      · refine top_i (y := -1) rfl ?_
                        refine lv_iconst (v := (-1)) hx hb dX9_goes_164 (by decide) ?_
                        refine lv_icmp_ne (tgt := 179) hx hb dX9_goes_165 (by decide) (fun c => absurd c (by decide)) (fun _ => ?_)
                        refine lv_aload_n hx hb dX9_goes_168 rfl (lv_at hl 3 rfl) ?_
                        refine lv_iload_n hx hb dX9_goes_169 rfl (lv_at hl 1 rfl) ?_
                        refine lv_aload_n hx hb dX9_goes_170 rfl (lv_at hl 3 rfl) ?_
                        refine mr_get hC hK hM 24 (by decide) fl_X9_62 rfl (v := .ref (ma 24)) rfl dX9_goes_171 ?_
                        refine lv_iload_n hx hb dX9_goes_174 rfl (lv_at hl 1 rfl) ?_
                        refine mr_ild hC hK hM 24 (i := p7) (show p7 < 6 from by omega) rfl (v := Mt 24 p7) (by rw [mset_n _ _ _ (by decide), hs2 24 rfl (by decide)]) dX9_goes_175 ?_
                        refine mcl_vW (run_V hC (c9W_moves l G ma (mset M2 26 p7 (bI true)) p7 (Mt 24 p7) hI (by omega)) (As := [.int (nI p7), .int (Mt 24 p7)]) (rest := []) rfl rfl ml_X9_198 im_X9_moves se_X9_moves ini_X9 cd_X9_moves ⟨rfl, na_X9_moves⟩ mBW_blind (mr_recv hK (WS.of hM)) (mrW_B hK hM) hl.1 (Nat.le_of_ble_eq_true rfl) ⟨Nat.le_of_ble_eq_true rfl, Nat.le_of_ble_eq_true rfl⟩ ⟨Nat.le_refl _, Nat.le_refl _⟩ rfl dX9_goes_176) hS (fun _ h => h) (fun M12 H locs hp12 hM hS => ?_)
                        rw [hp12] at hM
                        refine lv_iinc (v := nI (t + 1)) (lv' := [(1, .int (nI (t + 1))), (3, .int (nI k)), (2, .int (nI p7)), (0, .ref (ma 0))]) hx hb dX9_goes_179 hl (k := 2) rfl (nI_inc _) (by decide) rfl (fun ls hl => ?_)
                        refine lv_goto (tgt := 45) hx hb dX9_goes_182 (by decide) ?_
                        exact ih3 (t + 1) (mvF Mt p7 (Mt 24 p7)) (fun k => if k = p7 then true else dn k) (mvF (mset M2 26 p7 (bI true)) p7 (Mt 24 p7)) H locs ls (by omega) (goGo_mv hg hsel ho10) (mvF_cg (sc_set rfl hs2)) (fun c hc => by show mset M2 26 p7 (bI true) 26 c = _; rw [mset_s]; unfold upd; by_cases e : c = p7; (rw [if_pos e, if_pos e]); (rw [if_neg e, if_neg e]; exact hd2 c hc)) hM hS (by omega) (lv_sub hl [0, 3] rfl)
                      · refine top_i (y := nI k10) rfl ?_
                        have hlt_k10 := (lastE_lt ho10).1
                        refine lv_iconst (v := (-1)) hx hb dX9_goes_164 (by decide) ?_
                        refine lv_icmp_ne (tgt := 179) hx hb dX9_goes_165 (by decide) (fun _ => ?_) (fun c => absurd c (nI_m1 (by omega)))
                        refine lv_iinc (v := nI (t + 1)) (lv' := [(1, .int (nI (t + 1))), (3, .int (nI k)), (2, .int (nI p7)), (0, .ref (ma 0))]) hx hb dX9_goes_179 hl (k := 2) rfl (nI_inc _) (by decide) rfl (fun ls hl => ?_)
                        refine lv_goto (tgt := 45) hx hb dX9_goes_182 (by decide) ?_
                        exact ih3 (t + 1) Mt (fun k => if k = p7 then true else dn k) (mset M2 26 p7 (bI true)) H locs ls (by omega) (goGo_st hg hsel ho10) (sc_set rfl hs2) (fun c hc => by rw [mset_s]; unfold upd; by_cases e : c = p7; (rw [if_pos e, if_pos e]); (rw [if_neg e, if_neg e]; exact hd2 c hc)) hM hS (by omega) (lv_sub hl [0, 3] rfl)
                  · rcases hq14 : b with _ | p14
                    · have hl : lv_has ls 5 [(3, .int (nI k)), (2, .int (-1)), (1, .int (nI t)), (0, .ref (ma 0))] := by rw [hq14] at hl; exact hl
                      refine lv_iload_n hx hb dX9_goes_65 rfl (lv_at hl 1 rfl) ?_
                      refine lv_iconst (v := (-1)) hx hb dX9_goes_66 (by decide) ?_
                      refine lv_icmp_eq (tgt := 109) hx hb dX9_goes_67 (by decide) (fun _ => ?_) (fun c => absurd c (by decide))
                      refine lv_iconst (v := 1) hx hb dX9_goes_109 (by decide) ?_
                      refine lv_goto (tgt := 114) hx hb dX9_goes_110 (by decide) ?_
                      refine lv_istore (lv' := [(4, .int 1), (3, .int (nI k)), (2, .int (-1)), (1, .int (nI t)), (0, .ref (ma 0))]) hx hb dX9_goes_114 hl (by decide) rfl (fun ls hl => ?_)
                      refine lv_aload_n hx hb dX9_goes_116 rfl (lv_at hl 4 rfl) ?_
                      refine mr_get hC hK hM 26 (by decide) fl_X9_68 rfl (v := .ref (ma 26)) rfl dX9_goes_117 ?_
                      refine lv_iload_n hx hb dX9_goes_120 rfl (lv_at hl 1 rfl) ?_
                      refine mr_zld hC hK hM 26 (i := k) (show k < 6 from by omega) rfl (v := bI (dn k)) (hd2 k (by omega)) dX9_goes_121 ?_
                      refine lb_ne (tgt := 134) (b := (dn k)) hx hb dX9_goes_122 (by decide) (fun c_16t => ?_) (fun c_16f => ?_)
                      · refine lv_iload_n hx hb dX9_goes_134 rfl (lv_at hl 2 rfl) ?_
                        refine lv_istore_n (lv' := [(2, .int (-1)), (4, .int 1), (3, .int (nI k)), (1, .int (nI t)), (0, .ref (ma 0))]) hx hb dX9_goes_135 rfl hl (by decide) rfl (fun ls hl => ?_)
                        refine lv_iinc (v := nI (k + 1)) (lv' := [(3, .int (nI (k + 1))), (2, .int (-1)), (4, .int 1), (1, .int (nI t)), (0, .ref (ma 0))]) hx hb dX9_goes_136 hl (k := 2) rfl (nI_inc _) (by decide) rfl (fun ls hl => ?_)
                        refine lv_goto (tgt := 57) hx hb dX9_goes_139 (by decide) ?_
                        exact ih5 (k + 1) none ls (by omega) (hq14.symm.trans (selG_d hbb c_16t).symm) (fun j hj => by cases hj) (by omega) (lv_sub hl [0, 1, 3, 4] rfl)
                      · refine lv_iload hx hb dX9_goes_125 (lv_at hl 0 rfl) ?_
                        refine lv_if_eq (tgt := 134) hx hb dX9_goes_127 (by decide) (fun c => absurd c (by decide)) (fun _ => ?_)
                        refine lv_iload_n hx hb dX9_goes_130 rfl (lv_at hl 1 rfl) ?_
                        refine lv_goto (tgt := 135) hx hb dX9_goes_131 (by decide) ?_
                        refine lv_istore_n (lv' := [(2, .int (nI k)), (4, .int 1), (3, .int (nI k)), (1, .int (nI t)), (0, .ref (ma 0))]) hx hb dX9_goes_135 rfl hl (by decide) rfl (fun ls hl => ?_)
                        refine lv_iinc (v := nI (k + 1)) (lv' := [(3, .int (nI (k + 1))), (2, .int (nI k)), (4, .int 1), (1, .int (nI t)), (0, .ref (ma 0))]) hx hb dX9_goes_136 hl (k := 2) rfl (nI_inc _) (by decide) rfl (fun ls hl => ?_)
                        refine lv_goto (tgt := 57) hx hb dX9_goes_139 (by decide) ?_
                        exact ih5 (k + 1) (some k) ls (by omega) ((selG_t hbb c_16f (by rw [hq14]; simp [ahdB, c_2t, c_4f, c_6f, c_16f])).symm) (fun j hj => by cases hj; omega) (by omega) (lv_sub hl [0, 1, 3, 4] rfl)
                    · have hl : lv_has ls 5 [(3, .int (nI k)), (2, .int (nI p14)), (1, .int (nI t)), (0, .ref (ma 0))] := by rw [hq14] at hl; exact hl
                      have hq6 := hb6 _ hq14
                      refine lv_iload_n hx hb dX9_goes_65 rfl (lv_at hl 1 rfl) ?_
                      refine lv_iconst (v := (-1)) hx hb dX9_goes_66 (by decide) ?_
                      refine lv_icmp_eq (tgt := 109) hx hb dX9_goes_67 (by decide) (fun c => absurd c (nI_m1 (by omega))) (fun _ => ?_)
                      refine lv_aload_n hx hb dX9_goes_70 rfl (lv_at hl 3 rfl) ?_
                      refine mr_get hC hK hM 25 (by decide) fl_X9_65 rfl (v := .ref (ma 25)) rfl dX9_goes_71 ?_
                      refine lv_iload_n hx hb dX9_goes_74 rfl (lv_at hl 0 rfl) ?_
                      refine mr_ild hC hK hM 25 (i := k) (show k < 6 from by omega) rfl (v := Mt 25 k) (by rw [hs2 25 rfl (by decide)]) dX9_goes_75 ?_
                      refine lv_aload_n hx hb dX9_goes_76 rfl (lv_at hl 3 rfl) ?_
                      refine mr_get hC hK hM 25 (by decide) fl_X9_65 rfl (v := .ref (ma 25)) rfl dX9_goes_77 ?_
                      refine lv_iload_n hx hb dX9_goes_80 rfl (lv_at hl 1 rfl) ?_
                      refine mr_ild hC hK hM 25 (i := p14) (show p14 < 6 from by omega) rfl (v := Mt 25 p14) (by rw [hs2 25 rfl (by decide)]) dX9_goes_81 ?_
                      refine lv_icmp_lt (tgt := 109) hx hb dX9_goes_82 (by decide) (fun c_19t => ?_) (fun c_19f => ?_)
                      · refine lv_iconst (v := 1) hx hb dX9_goes_109 (by decide) ?_
                        refine lv_goto (tgt := 114) hx hb dX9_goes_110 (by decide) ?_
                        refine lv_istore (lv' := [(4, .int 1), (3, .int (nI k)), (2, .int (nI p14)), (1, .int (nI t)), (0, .ref (ma 0))]) hx hb dX9_goes_114 hl (by decide) rfl (fun ls hl => ?_)
                        refine lv_aload_n hx hb dX9_goes_116 rfl (lv_at hl 4 rfl) ?_
                        refine mr_get hC hK hM 26 (by decide) fl_X9_68 rfl (v := .ref (ma 26)) rfl dX9_goes_117 ?_
                        refine lv_iload_n hx hb dX9_goes_120 rfl (lv_at hl 1 rfl) ?_
                        refine mr_zld hC hK hM 26 (i := k) (show k < 6 from by omega) rfl (v := bI (dn k)) (hd2 k (by omega)) dX9_goes_121 ?_
                        refine lb_ne (tgt := 134) (b := (dn k)) hx hb dX9_goes_122 (by decide) (fun c_20t => ?_) (fun c_20f => ?_)
                        · refine lv_iload_n hx hb dX9_goes_134 rfl (lv_at hl 2 rfl) ?_
                          refine lv_istore_n (lv' := [(2, .int (nI p14)), (4, .int 1), (3, .int (nI k)), (1, .int (nI t)), (0, .ref (ma 0))]) hx hb dX9_goes_135 rfl hl (by decide) rfl (fun ls hl => ?_)
                          refine lv_iinc (v := nI (k + 1)) (lv' := [(3, .int (nI (k + 1))), (2, .int (nI p14)), (4, .int 1), (1, .int (nI t)), (0, .ref (ma 0))]) hx hb dX9_goes_136 hl (k := 2) rfl (nI_inc _) (by decide) rfl (fun ls hl => ?_)
                          refine lv_goto (tgt := 57) hx hb dX9_goes_139 (by decide) ?_
                          exact ih5 (k + 1) (some p14) ls (by omega) (hq14.symm.trans (selG_d hbb c_20t).symm) (fun j hj => by cases hj; omega) (by omega) (lv_sub hl [0, 1, 3, 4] rfl)
                        · refine lv_iload hx hb dX9_goes_125 (lv_at hl 0 rfl) ?_
                          refine lv_if_eq (tgt := 134) hx hb dX9_goes_127 (by decide) (fun c => absurd c (by decide)) (fun _ => ?_)
                          refine lv_iload_n hx hb dX9_goes_130 rfl (lv_at hl 1 rfl) ?_
                          refine lv_goto (tgt := 135) hx hb dX9_goes_131 (by decide) ?_
                          refine lv_istore_n (lv' := [(2, .int (nI k)), (4, .int 1), (3, .int (nI k)), (1, .int (nI t)), (0, .ref (ma 0))]) hx hb dX9_goes_135 rfl hl (by decide) rfl (fun ls hl => ?_)
                          refine lv_iinc (v := nI (k + 1)) (lv' := [(3, .int (nI (k + 1))), (2, .int (nI k)), (4, .int 1), (1, .int (nI t)), (0, .ref (ma 0))]) hx hb dX9_goes_136 hl (k := 2) rfl (nI_inc _) (by decide) rfl (fun ls hl => ?_)
                          refine lv_goto (tgt := 57) hx hb dX9_goes_139 (by decide) ?_
                          exact ih5 (k + 1) (some k) ls (by omega) ((selG_t hbb c_20f (by rw [hq14]; simp [ahdB, c_2t, c_4f, c_6f, c_19t, c_20f])).symm) (fun j hj => by cases hj; omega) (by omega) (lv_sub hl [0, 1, 3, 4] rfl)
                      · refine lv_aload_n hx hb dX9_goes_85 rfl (lv_at hl 3 rfl) ?_
                        refine mr_get hC hK hM 25 (by decide) fl_X9_65 rfl (v := .ref (ma 25)) rfl dX9_goes_86 ?_
                        refine lv_iload_n hx hb dX9_goes_89 rfl (lv_at hl 0 rfl) ?_
                        refine mr_ild hC hK hM 25 (i := k) (show k < 6 from by omega) rfl (v := Mt 25 k) (by rw [hs2 25 rfl (by decide)]) dX9_goes_90 ?_
                        refine lv_aload_n hx hb dX9_goes_91 rfl (lv_at hl 3 rfl) ?_
                        refine mr_get hC hK hM 25 (by decide) fl_X9_65 rfl (v := .ref (ma 25)) rfl dX9_goes_92 ?_
                        refine lv_iload_n hx hb dX9_goes_95 rfl (lv_at hl 1 rfl) ?_
                        refine mr_ild hC hK hM 25 (i := p14) (show p14 < 6 from by omega) rfl (v := Mt 25 p14) (by rw [hs2 25 rfl (by decide)]) dX9_goes_96 ?_
                        refine lv_icmp_ne (tgt := 113) hx hb dX9_goes_97 (by decide) (fun c_22t => ?_) (fun c_22f => ?_)
                        · refine lv_iconst (v := 0) hx hb dX9_goes_113 (by decide) ?_
                          refine lv_istore (lv' := [(4, .int 0), (3, .int (nI k)), (2, .int (nI p14)), (1, .int (nI t)), (0, .ref (ma 0))]) hx hb dX9_goes_114 hl (by decide) rfl (fun ls hl => ?_)
                          refine lv_aload_n hx hb dX9_goes_116 rfl (lv_at hl 4 rfl) ?_
                          refine mr_get hC hK hM 26 (by decide) fl_X9_68 rfl (v := .ref (ma 26)) rfl dX9_goes_117 ?_
                          refine lv_iload_n hx hb dX9_goes_120 rfl (lv_at hl 1 rfl) ?_
                          refine mr_zld hC hK hM 26 (i := k) (show k < 6 from by omega) rfl (v := bI (dn k)) (hd2 k (by omega)) dX9_goes_121 ?_
                          refine lb_ne (tgt := 134) (b := (dn k)) hx hb dX9_goes_122 (by decide) (fun c_23t => ?_) (fun c_23f => ?_)
                          · refine lv_iload_n hx hb dX9_goes_134 rfl (lv_at hl 2 rfl) ?_
                            refine lv_istore_n (lv' := [(2, .int (nI p14)), (4, .int 0), (3, .int (nI k)), (1, .int (nI t)), (0, .ref (ma 0))]) hx hb dX9_goes_135 rfl hl (by decide) rfl (fun ls hl => ?_)
                            refine lv_iinc (v := nI (k + 1)) (lv' := [(3, .int (nI (k + 1))), (2, .int (nI p14)), (4, .int 0), (1, .int (nI t)), (0, .ref (ma 0))]) hx hb dX9_goes_136 hl (k := 2) rfl (nI_inc _) (by decide) rfl (fun ls hl => ?_)
                            refine lv_goto (tgt := 57) hx hb dX9_goes_139 (by decide) ?_
                            exact ih5 (k + 1) (some p14) ls (by omega) (hq14.symm.trans (selG_d hbb c_23t).symm) (fun j hj => by cases hj; omega) (by omega) (lv_sub hl [0, 1, 3, 4] rfl)
                          · refine lv_iload hx hb dX9_goes_125 (lv_at hl 0 rfl) ?_
                            refine lv_if_eq (tgt := 134) hx hb dX9_goes_127 (by decide) (fun _ => ?_) (fun c => absurd c (by decide))
                            refine lv_iload_n hx hb dX9_goes_134 rfl (lv_at hl 2 rfl) ?_
                            refine lv_istore_n (lv' := [(2, .int (nI p14)), (4, .int 0), (3, .int (nI k)), (1, .int (nI t)), (0, .ref (ma 0))]) hx hb dX9_goes_135 rfl hl (by decide) rfl (fun ls hl => ?_)
                            refine lv_iinc (v := nI (k + 1)) (lv' := [(3, .int (nI (k + 1))), (2, .int (nI p14)), (4, .int 0), (1, .int (nI t)), (0, .ref (ma 0))]) hx hb dX9_goes_136 hl (k := 2) rfl (nI_inc _) (by decide) rfl (fun ls hl => ?_)
                            refine lv_goto (tgt := 57) hx hb dX9_goes_139 (by decide) ?_
                            exact ih5 (k + 1) (some p14) ls (by omega) (hq14.symm.trans (selG_n hbb (by rw [hq14]; simp [ahdB, c_2t, c_4f, c_6f, c_19f, c_22t, c_23f])).symm) (fun j hj => by cases hj; omega) (by omega) (lv_sub hl [0, 1, 3, 4] rfl)
                        · refine lv_aload_n hx hb dX9_goes_100 rfl (lv_at hl 3 rfl) ?_
                          refine lv_iload_n hx hb dX9_goes_101 rfl (lv_at hl 0 rfl) ?_
                          refine lv_iload_n hx hb dX9_goes_102 rfl (lv_at hl 1 rfl) ?_
                          refine cl_pi (x := bI (abvB Mt k p14)) (run_V hC (c9_isAbove l G ma M2 none k p14 (by omega) (by omega)) (As := [.int (nI k), .int (nI p14)]) (rest := []) rfl rfl ml_X9_211 im_X9_isAbove se_X9_isAbove ini_X9 cd_X9_isAbove ⟨rfl, na_X9_isAbove⟩ mB_blind (mr_recv hK (WS.of hM)) (mr_B hK (WS.of hM)) hl.1 (Nat.le_of_ble_eq_true rfl) ⟨Nat.le_of_ble_eq_true rfl, Nat.le_of_ble_eq_true rfl⟩ ⟨Nat.le_refl _, Nat.le_refl _⟩ rfl dX9_goes_103) (congrArg bI (abvB_cg hs2 k p14)) ?_
                          refine lb_eq (tgt := 113) (b := (abvB Mt k p14)) hx hb dX9_goes_106 (by decide) (fun c_25t => ?_) (fun c_25f => ?_)
                          · refine lv_iconst (v := 0) hx hb dX9_goes_113 (by decide) ?_
                            refine lv_istore (lv' := [(4, .int 0), (3, .int (nI k)), (2, .int (nI p14)), (1, .int (nI t)), (0, .ref (ma 0))]) hx hb dX9_goes_114 hl (by decide) rfl (fun ls hl => ?_)
                            refine lv_aload_n hx hb dX9_goes_116 rfl (lv_at hl 4 rfl) ?_
                            refine mr_get hC hK hM 26 (by decide) fl_X9_68 rfl (v := .ref (ma 26)) rfl dX9_goes_117 ?_
                            refine lv_iload_n hx hb dX9_goes_120 rfl (lv_at hl 1 rfl) ?_
                            refine mr_zld hC hK hM 26 (i := k) (show k < 6 from by omega) rfl (v := bI (dn k)) (hd2 k (by omega)) dX9_goes_121 ?_
                            refine lb_ne (tgt := 134) (b := (dn k)) hx hb dX9_goes_122 (by decide) (fun c_26t => ?_) (fun c_26f => ?_)
                            · refine lv_iload_n hx hb dX9_goes_134 rfl (lv_at hl 2 rfl) ?_
                              refine lv_istore_n (lv' := [(2, .int (nI p14)), (4, .int 0), (3, .int (nI k)), (1, .int (nI t)), (0, .ref (ma 0))]) hx hb dX9_goes_135 rfl hl (by decide) rfl (fun ls hl => ?_)
                              refine lv_iinc (v := nI (k + 1)) (lv' := [(3, .int (nI (k + 1))), (2, .int (nI p14)), (4, .int 0), (1, .int (nI t)), (0, .ref (ma 0))]) hx hb dX9_goes_136 hl (k := 2) rfl (nI_inc _) (by decide) rfl (fun ls hl => ?_)
                              refine lv_goto (tgt := 57) hx hb dX9_goes_139 (by decide) ?_
                              exact ih5 (k + 1) (some p14) ls (by omega) (hq14.symm.trans (selG_d hbb c_26t).symm) (fun j hj => by cases hj; omega) (by omega) (lv_sub hl [0, 1, 3, 4] rfl)
                            · refine lv_iload hx hb dX9_goes_125 (lv_at hl 0 rfl) ?_
                              refine lv_if_eq (tgt := 134) hx hb dX9_goes_127 (by decide) (fun _ => ?_) (fun c => absurd c (by decide))
                              refine lv_iload_n hx hb dX9_goes_134 rfl (lv_at hl 2 rfl) ?_
                              refine lv_istore_n (lv' := [(2, .int (nI p14)), (4, .int 0), (3, .int (nI k)), (1, .int (nI t)), (0, .ref (ma 0))]) hx hb dX9_goes_135 rfl hl (by decide) rfl (fun ls hl => ?_)
                              refine lv_iinc (v := nI (k + 1)) (lv' := [(3, .int (nI (k + 1))), (2, .int (nI p14)), (4, .int 0), (1, .int (nI t)), (0, .ref (ma 0))]) hx hb dX9_goes_136 hl (k := 2) rfl (nI_inc _) (by decide) rfl (fun ls hl => ?_)
                              refine lv_goto (tgt := 57) hx hb dX9_goes_139 (by decide) ?_
                              exact ih5 (k + 1) (some p14) ls (by omega) (hq14.symm.trans (selG_n hbb (by rw [hq14]; simp [ahdB, c_2t, c_4f, c_6f, c_19f, c_22f, c_25t, c_26f])).symm) (fun j hj => by cases hj; omega) (by omega) (lv_sub hl [0, 1, 3, 4] rfl)
                          · refine lv_iconst (v := 1) hx hb dX9_goes_109 (by decide) ?_
                            refine lv_goto (tgt := 114) hx hb dX9_goes_110 (by decide) ?_
                            refine lv_istore (lv' := [(4, .int 1), (3, .int (nI k)), (2, .int (nI p14)), (1, .int (nI t)), (0, .ref (ma 0))]) hx hb dX9_goes_114 hl (by decide) rfl (fun ls hl => ?_)
                            refine lv_aload_n hx hb dX9_goes_116 rfl (lv_at hl 4 rfl) ?_
                            refine mr_get hC hK hM 26 (by decide) fl_X9_68 rfl (v := .ref (ma 26)) rfl dX9_goes_117 ?_
                            refine lv_iload_n hx hb dX9_goes_120 rfl (lv_at hl 1 rfl) ?_
                            refine mr_zld hC hK hM 26 (i := k) (show k < 6 from by omega) rfl (v := bI (dn k)) (hd2 k (by omega)) dX9_goes_121 ?_
                            refine lb_ne (tgt := 134) (b := (dn k)) hx hb dX9_goes_122 (by decide) (fun c_28t => ?_) (fun c_28f => ?_)
                            · refine lv_iload_n hx hb dX9_goes_134 rfl (lv_at hl 2 rfl) ?_
                              refine lv_istore_n (lv' := [(2, .int (nI p14)), (4, .int 1), (3, .int (nI k)), (1, .int (nI t)), (0, .ref (ma 0))]) hx hb dX9_goes_135 rfl hl (by decide) rfl (fun ls hl => ?_)
                              refine lv_iinc (v := nI (k + 1)) (lv' := [(3, .int (nI (k + 1))), (2, .int (nI p14)), (4, .int 1), (1, .int (nI t)), (0, .ref (ma 0))]) hx hb dX9_goes_136 hl (k := 2) rfl (nI_inc _) (by decide) rfl (fun ls hl => ?_)
                              refine lv_goto (tgt := 57) hx hb dX9_goes_139 (by decide) ?_
                              exact ih5 (k + 1) (some p14) ls (by omega) (hq14.symm.trans (selG_d hbb c_28t).symm) (fun j hj => by cases hj; omega) (by omega) (lv_sub hl [0, 1, 3, 4] rfl)
                            · refine lv_iload hx hb dX9_goes_125 (lv_at hl 0 rfl) ?_
                              refine lv_if_eq (tgt := 134) hx hb dX9_goes_127 (by decide) (fun c => absurd c (by decide)) (fun _ => ?_)
                              refine lv_iload_n hx hb dX9_goes_130 rfl (lv_at hl 1 rfl) ?_
                              refine lv_goto (tgt := 135) hx hb dX9_goes_131 (by decide) ?_
                              refine lv_istore_n (lv' := [(2, .int (nI k)), (4, .int 1), (3, .int (nI k)), (1, .int (nI t)), (0, .ref (ma 0))]) hx hb dX9_goes_135 rfl hl (by decide) rfl (fun ls hl => ?_)
                              refine lv_iinc (v := nI (k + 1)) (lv' := [(3, .int (nI (k + 1))), (2, .int (nI k)), (4, .int 1), (1, .int (nI t)), (0, .ref (ma 0))]) hx hb dX9_goes_136 hl (k := 2) rfl (nI_inc _) (by decide) rfl (fun ls hl => ?_)
                              refine lv_goto (tgt := 57) hx hb dX9_goes_139 (by decide) ?_
                              exact ih5 (k + 1) (some k) ls (by omega) ((selG_t hbb c_28f (by rw [hq14]; simp [ahdB, c_2t, c_4f, c_6f, c_19f, c_22f, c_25f, c_28f])).symm) (fun j hj => by cases hj; omega) (by omega) (lv_sub hl [0, 1, 3, 4] rfl)
              exact loop5 ((nR M - 0) + 1) 0 none ls (Nat.zero_le _) rfl (fun j hj => by cases hj) (by omega) (lv_sub hl [0, 1, 2, 3] rfl)
        exact loop3 ((nR M - 0) + 1) 0 M (dn0 M) M1 H locs ls (by omega) rfl hs1 (fun c hc => h1 c (by omega)) hM hS (by omega) (lv_sub hl [0, 1] rfl)
      · refine lv_aload_n hx hb dX9_goes_8 rfl (lv_at hl 1 rfl) ?_
        refine mr_get hC hK hM 26 (by decide) fl_X9_68 rfl (v := .ref (ma 26)) rfl dX9_goes_9 ?_
        refine lv_iload_n hx hb dX9_goes_12 rfl (lv_at hl 0 rfl) ?_
        refine lv_iload_n hx hb dX9_goes_13 rfl (lv_at hl 0 rfl) ?_
        refine lv_aload_n hx hb dX9_goes_14 rfl (lv_at hl 1 rfl) ?_
        refine mr_get hC hK hM 17 (by decide) fl_X9_103 rfl (v := .int (nI (nR M))) (congrArg Value.int (show M1 17 0 = (nI (nR M)) from (by rw [hs1 17 rfl (by decide)]; exact hcnt.R))) dX9_goes_15 ?_
        refine ln_ge (tgt := 31) (a := k) (b := (nR M)) hx hb dX9_goes_18 (by decide) rfl rfl (by omega) (by omega) (fun c_30t => ?_) (fun c_30f => ?_)
        · refine lv_iconst (v := 1) hx hb dX9_goes_31 (by decide) ?_
          refine lv_goto (tgt := 36) hx hb dX9_goes_32 (by decide) ?_
          refine mr_zst hC hK hI hM hS 26 (mA_k (by decide)) (i := k) (show k < 6 from by omega) rfl true rfl dX9_goes_36 (fun H locs hM hS => ?_)
          have hdn1 : ∀ c, c < k + 1 → (mset M1 26 k (bI true)) 26 c = bI (dn0 M c) := by
            intro c hc
            rw [mset_s]
            unfold upd
            by_cases e : c = k
            · rw [if_pos e, e]; simp [dn0, c_30t] <;> omega
            · rw [if_neg e]; exact h1 c (by omega)
          refine lv_iinc (v := nI (k + 1)) (lv' := [(1, .int (nI (k + 1))), (0, .ref (ma 0))]) hx hb dX9_goes_37 hl (k := 0) rfl (nI_inc _) (by decide) rfl (fun ls hl => ?_)
          refine lv_goto (tgt := 2) hx hb dX9_goes_40 (by decide) ?_
          exact ih1 (k + 1) (mset M1 26 k (bI true)) H locs ls (by omega) (sc_set rfl hs1) hdn1 hM hS (by omega) (lv_sub hl [0, 1] rfl)
        · refine lv_aload_n hx hb dX9_goes_21 rfl (lv_at hl 1 rfl) ?_
          refine mr_get hC hK hM 24 (by decide) fl_X9_62 rfl (v := .ref (ma 24)) rfl dX9_goes_22 ?_
          refine lv_iload_n hx hb dX9_goes_25 rfl (lv_at hl 0 rfl) ?_
          refine mr_ild hC hK hM 24 (i := k) (show k < 6 from by omega) rfl (v := M 24 k) (by rw [hs1 24 rfl (by decide)]) dX9_goes_26 ?_
          refine lv_iconst (v := (-1)) hx hb dX9_goes_27 (by decide) ?_
          refine lv_icmp_ne (tgt := 35) hx hb dX9_goes_28 (by decide) (fun c_31t => ?_) (fun c_31f => ?_)
          · refine lv_iconst (v := 0) hx hb dX9_goes_35 (by decide) ?_
            refine mr_zst hC hK hI hM hS 26 (mA_k (by decide)) (i := k) (show k < 6 from by omega) rfl false rfl dX9_goes_36 (fun H locs hM hS => ?_)
            have hdn1 : ∀ c, c < k + 1 → (mset M1 26 k (bI false)) 26 c = bI (dn0 M c) := by
              intro c hc
              rw [mset_s]
              unfold upd
              by_cases e : c = k
              · rw [if_pos e, e]; simp [dn0, c_30f, c_31t] <;> omega
              · rw [if_neg e]; exact h1 c (by omega)
            refine lv_iinc (v := nI (k + 1)) (lv' := [(1, .int (nI (k + 1))), (0, .ref (ma 0))]) hx hb dX9_goes_37 hl (k := 0) rfl (nI_inc _) (by decide) rfl (fun ls hl => ?_)
            refine lv_goto (tgt := 2) hx hb dX9_goes_40 (by decide) ?_
            exact ih1 (k + 1) (mset M1 26 k (bI false)) H locs ls (by omega) (sc_set rfl hs1) hdn1 hM hS (by omega) (lv_sub hl [0, 1] rfl)
          · refine lv_iconst (v := 1) hx hb dX9_goes_31 (by decide) ?_
            refine lv_goto (tgt := 36) hx hb dX9_goes_32 (by decide) ?_
            refine mr_zst hC hK hI hM hS 26 (mA_k (by decide)) (i := k) (show k < 6 from by omega) rfl true rfl dX9_goes_36 (fun H locs hM hS => ?_)
            have hdn1 : ∀ c, c < k + 1 → (mset M1 26 k (bI true)) 26 c = bI (dn0 M c) := by
              intro c hc
              rw [mset_s]
              unfold upd
              by_cases e : c = k
              · rw [if_pos e, e]; simp [dn0, c_30f, c_31f] <;> omega
              · rw [if_neg e]; exact h1 c (by omega)
            refine lv_iinc (v := nI (k + 1)) (lv' := [(1, .int (nI (k + 1))), (0, .ref (ma 0))]) hx hb dX9_goes_37 hl (k := 0) rfl (nI_inc _) (by decide) rfl (fun ls hl => ?_)
            refine lv_goto (tgt := 2) hx hb dX9_goes_40 (by decide) ?_
            exact ih1 (k + 1) (mset M1 26 k (bI true)) H locs ls (by omega) (sc_set rfl hs1) hdn1 hM hS (by omega) (lv_sub hl [0, 1] rfl)
  exact loop1 ((6 - 0) + 1) 0 M0 H locs ls (by omega) hs (fun c h => by omega) hM hS (by omega) (lv_sub hl [0, 1] rfl)
