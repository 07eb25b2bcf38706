theorem brkF_1 {M : MS} {r o lo hi : Nat} (ho : nxtA M r = some o) (h1 : (if abvB M r o = true then o else r) = lo) (h2 : (if abvB M r o = true then r else o) = hi) : brkF M r = if yldB M lo hi = true then yldG M lo hi else if yldB M hi lo = true then yldG M hi lo else mset M 31 0 (M 31 0 + 1) := by
  subst h1; subst h2
  unfold brkF
  rw [ho]
  rfl
theorem resS_3 {M : MS} {r : Nat} (h : 3 ≤ rgN M r) : resS M r = trnF M r := if_pos h
theorem resS_2 {M : MS} {r : Nat} (h : rgN M r = 2) : resS M r = brkF M r := by rw [resS, if_neg (by omega), if_pos h]
theorem resS_0 {M : MS} {r : Nat} (h : ¬ 3 ≤ rgN M r) (h2 : ¬ rgN M r = 2) : resS M r = M := by rw [resS, if_neg h, if_neg h2]
theorem rgN_le (M : MS) (r : Nat) : rgN M r ≤ 6 := by
  rcases Nat.eq_zero_or_pos (rgN M r) with q | q
  · omega
  · exact (ring_spec q).2.1
theorem res_inv {B : Nat} {M : MS} (hI : INV B M) : ∀ n, n ≤ nR M → INV B (itR resS n M) ∧ kpt M (itR resS n M) := fun n hn =>
  itR_INV hI (f := resS) (N := nR M) (fun M' r a b c => INV_res a (by rw [b.eR]; exact c)) n hn
set_option maxHeartbeats 4000000 in
set_option maxRecDepth 100000 in
theorem c9_resolves (l : Launch) (G : gG) (ma : Nat → Nat) (M : MS) (D : mD) (hI : mI ma) (hcnt : CNT M) (hinv_ : ∃ B, INV B M) : Met l yX9_resolves (wB yX9_resolves cX9_resolves 6 none) (rmL 4 0 0) (va_Pc [.ref (ma 0)] (mB G ma M D)) (mQv G ma none (fun M' => M' = itR resS (nR M) M)) 0 0 (mA ma) := by
  refine st_N (own := RX9) (by decide +kernel) rfl (Nat.le_of_ble_eq_true rfl) ?_
  intro p e s m below meth c ls args Q hQ hC hr hlk hnm hl hP
  obtain ⟨hM, hK⟩ := hP
  have hx := hC.1
  have hb := hC.2.1
  have hl : lv_has ls 6 [(0, .ref (ma 0))] := hl
  have hS : va_S (mA ma) s.heap s.heap [] := va_S.rf
  obtain ⟨H, locs, hHe, hLe⟩ : ∃ (H : Heap) (locs : List Loc), H = s.heap ∧ locs = [] := ⟨_, _, rfl, rfl⟩
  rw [← hHe] at hM
  have hS : va_S (mA ma) s.heap H locs := by rw [hHe, hLe]; exact va_S.rf
  suffices hgo : W p l e (rmL 4 0 0) s m args below meth c H locs 0 0 Q (F0 m 0 ls []) by
    rw [hHe, hLe] at hgo
    exact hgo
  clear hHe hLe
  obtain ⟨B, hinv⟩ := hinv_
  have h6 := hcnt.R6
  have hM := hM.none
  have h6 := hcnt.R6
  refine lv_iconst (v := 0) hx hb dX9_resolves_0 (by decide) ?_
  refine lv_istore_n (lv' := [(1, .int 0), (0, .ref (ma 0))]) hx hb dX9_resolves_1 rfl hl (by decide) rfl (fun ls hl => ?_)
  have loop1 : ∀ (n_ : Nat) (r : Nat) (Mr : MS) (H : Heap) (locs : List Loc) (ls : Array Slot) (hr9 : r ≤ nR M) (hMr : Mr = itR resS r M) (hM : WS G ma Mr none H) (hS : va_S (mA ma) s.heap H locs), nR M - r < n_ → lv_has ls 6 [(1, .int (nI r)), (0, .ref (ma 0))] → W p l e (rmL 4 0 0) s m args below meth c H locs 0 0 Q (F0 m 2 ls []) := by
    intro n_
    induction n_ with
    | zero => intro r Mr H locs ls hr9 hMr hM hS hm hl; omega
    | succ n_ ih1 =>
      intro r Mr H locs ls hr9 hMr hM hS hm hl
      obtain ⟨hir, hkr⟩ : INV B Mr ∧ kpt M Mr := by rw [hMr]; exact res_inv hinv r hr9
      have hnr : nR Mr = nR M := hkr.eR
      have hr6b := hir.c.R6
      have hrg6 : rgN Mr r ≤ 6 := rgN_le Mr r
      refine lv_iload_n hx hb dX9_resolves_2 rfl (lv_at hl 0 rfl) ?_
      refine lv_aload_n hx hb dX9_resolves_3 rfl (lv_at hl 1 rfl) ?_
      refine ms_get hC hK hM 17 (by decide) fl_X9_103 rfl (v := .int (nI (nR M))) (congrArg Value.int (show Mr 17 0 = (nI (nR M)) from (by rw [hkr 17 rfl]; exact hcnt.R))) (fun q => rfl) dX9_resolves_4 ?_
      refine ln_ge (tgt := 107) (a := r) (b := (nR M)) hx hb dX9_resolves_7 (by decide) rfl rfl (by omega) (by omega) (fun c_2t => ?_) (fun c_2f => ?_)
      · subst hQ
        exact rt_mv hx hb hr hlk hM.none hS  (by rw [hMr, show r = nR M by omega]) dX9_resolves_107
      · refine lv_aload_n hx hb dX9_resolves_10 rfl (lv_at hl 1 rfl) ?_
        refine lv_iload_n hx hb dX9_resolves_11 rfl (lv_at hl 0 rfl) ?_
        refine cl_pi (x := nI (rgN Mr r)) (run_V hC (c9_ringOf l G ma Mr none r hir.c (by omega)) (As := [.int (nI r)]) (rest := []) rfl rfl ml_X9_204 im_X9_ringOf se_X9_ringOf ini_X9 cd_X9_ringOf ⟨rfl, na_X9_ringOf⟩ mB_blind (mr_recv hK hM) (mr_B hK hM) hl.1 (Nat.le_of_ble_eq_true rfl) ⟨Nat.le_of_ble_eq_true rfl, Nat.le_of_ble_eq_true rfl⟩ ⟨Nat.le_refl _, Nat.le_refl _⟩ rfl dX9_resolves_12) (rfl) ?_
        refine lv_istore_n (lv' := [(2, .int (nI (rgN Mr r))), (1, .int (nI r)), (0, .ref (ma 0))]) hx hb dX9_resolves_15 rfl hl (by decide) rfl (fun ls hl => ?_)
        refine lv_iload_n hx hb dX9_resolves_16 rfl (lv_at hl 0 rfl) ?_
        refine lv_iconst (v := 3) hx hb dX9_resolves_17 (by decide) ?_
        refine ln_lt (tgt := 29) (a := (rgN Mr r)) (b := 3) hx hb dX9_resolves_18 (by decide) rfl rfl (by omega) (by omega) (fun c_3t => ?_) (fun c_3f => ?_)
        · refine lv_iload_n hx hb dX9_resolves_29 rfl (lv_at hl 0 rfl) ?_
          refine lv_iconst (v := 2) hx hb dX9_resolves_30 (by decide) ?_
          refine ln_ne (tgt := 101) (a := (rgN Mr r)) (b := 2) hx hb dX9_resolves_31 (by decide) rfl rfl (by omega) (by omega) (fun c_4t => ?_) (fun c_4f => ?_)
          · refine lv_iinc (v := nI (r + 1)) (lv' := [(1, .int (nI (r + 1))), (2, .int (nI (rgN Mr r))), (0, .ref (ma 0))]) hx hb dX9_resolves_101 hl (k := 1) rfl (nI_inc _) (by decide) rfl (fun ls hl => ?_)
            refine lv_goto (tgt := 2) hx hb dX9_resolves_104 (by decide) ?_
            exact ih1 (r + 1) Mr H locs ls (by omega) (by rw [itR_s, ← hMr]; exact (resS_0 (by omega) c_4t).symm) hM hS (by omega) (lv_sub hl [0, 2] rfl)
          · obtain ⟨o, ho, hoR, haR, haO, hne⟩ := ring_two (M := Mr) (r := r) (by omega) c_4f
            refine lv_aload_n hx hb dX9_resolves_34 rfl (lv_at hl 2 rfl) ?_
            refine lv_iload_n hx hb dX9_resolves_35 rfl (lv_at hl 1 rfl) ?_
            refine cl_pi (x := nI o) (run_V hC (c9_nextOf l G ma Mr none r hir.c (by omega)) (As := [.int (nI r)]) (rest := []) rfl rfl ml_X9_192 im_X9_nextOf se_X9_nextOf ini_X9 cd_X9_nextOf ⟨rfl, na_X9_nextOf⟩ mB_blind (mr_recv hK hM) (mr_B hK hM) hl.1 (Nat.le_of_ble_eq_true rfl) ⟨Nat.le_of_ble_eq_true rfl, Nat.le_of_ble_eq_true rfl⟩ ⟨Nat.le_refl _, Nat.le_refl _⟩ rfl dX9_resolves_36) (by rw [ho]; rfl) ?_
            refine lv_istore_n (lv' := [(3, .int (nI o)), (2, .int (nI (rgN Mr r))), (1, .int (nI r)), (0, .ref (ma 0))]) hx hb dX9_resolves_39 rfl hl (by decide) rfl (fun ls hl => ?_)
            refine lv_aload_n hx hb dX9_resolves_40 rfl (lv_at hl 3 rfl) ?_
            refine lv_iload_n hx hb dX9_resolves_41 rfl (lv_at hl 2 rfl) ?_
            refine lv_iload_n hx hb dX9_resolves_42 rfl (lv_at hl 0 rfl) ?_
            refine cl_p (run_V hC (c9_isAbove l G ma Mr none r o (by omega) (by omega)) (As := [.int (nI r), .int (nI o)]) (rest := []) rfl rfl ml_X9_211 im_X9_isAbove se_X9_isAbove ini_X9 cd_X9_isAbove ⟨rfl, na_X9_isAbove⟩ mB_blind (mr_recv hK hM) (mr_B hK hM) hl.1 (Nat.le_of_ble_eq_true rfl) ⟨Nat.le_of_ble_eq_true rfl, Nat.le_of_ble_eq_true rfl⟩ ⟨Nat.le_refl _, Nat.le_refl _⟩ rfl dX9_resolves_43) ?_
            refine lb_eq (tgt := 53) (b := (abvB Mr r o)) hx hb dX9_resolves_46 (by decide) (fun c_5t => ?_) (fun c_5f => ?_)
            · refine lv_iload_n hx hb dX9_resolves_53 rfl (lv_at hl 2 rfl) ?_
              refine lv_istore (lv' := [(4, .int (nI r)), (3, .int (nI o)), (2, .int (nI (rgN Mr r))), (1, .int (nI r)), (0, .ref (ma 0))]) hx hb dX9_resolves_54 hl (by decide) rfl (fun ls hl => ?_)
              refine lv_iload hx hb dX9_resolves_56 (lv_at hl 0 rfl) ?_
              refine lv_iload_n hx hb dX9_resolves_58 rfl (lv_at hl 3 rfl) ?_
              refine ln_ne (tgt := 66) (a := r) (b := r) hx hb dX9_resolves_59 (by decide) rfl rfl (by omega) (by omega) (fun c => absurd rfl c) (fun _ => ?_)
              refine lv_iload_n hx hb dX9_resolves_62 rfl (lv_at hl 1 rfl) ?_
              refine lv_goto (tgt := 67) hx hb dX9_resolves_63 (by decide) ?_
              refine lv_istore (lv' := [(5, .int (nI o)), (4, .int (nI r)), (3, .int (nI o)), (2, .int (nI (rgN Mr r))), (1, .int (nI r)), (0, .ref (ma 0))]) hx hb dX9_resolves_67 hl (by decide) rfl (fun ls hl => ?_)
              refine lv_aload_n hx hb dX9_resolves_69 rfl (lv_at hl 5 rfl) ?_
              refine lv_iload hx hb dX9_resolves_70 (lv_at hl 1 rfl) ?_
              refine lv_iload hx hb dX9_resolves_72 (lv_at hl 0 rfl) ?_
              refine mcl_i (run_V hC (c9_yieldsTo l G ma Mr none r o hI hir.c (by omega) (by omega) ((hir.r.1 _ (show r < nR Mr by omega)).1) (asks_goal hir (show r < nR Mr by omega) haR) ((hir.r.1 _ (show r < nR Mr by omega)).2.1.go hir.c)) (As := [.int (nI r), .int (nI o)]) (rest := []) rfl rfl ml_X9_214 im_X9_yieldsTo se_X9_yieldsTo ini_X9 cd_X9_yieldsTo ⟨rfl, na_X9_yieldsTo⟩ mB_blind (mr_recv hK hM) (mr_B hK hM) hl.1 (Nat.le_of_ble_eq_true rfl) ⟨Nat.le_of_ble_eq_true rfl, Nat.le_of_ble_eq_true rfl⟩ ⟨Nat.le_refl _, Nat.le_refl _⟩ rfl dX9_resolves_74) hS (fun _ h => h) (fun r7 M7 H locs hp7 hM hS => ?_)
              obtain ⟨hr7, hm7⟩ := hp7
              refine top_i hr7 ?_
              rcases hy7 : yldB Mr r o with _ | _
              · refine top_i (y := 0) rfl ?_
                have hM : WS G ma Mr none H := by rw [hm7, hy7] at hM; exact hM
                refine lv_if_ne (tgt := 101) hx hb dX9_resolves_77 (by decide) (fun c => absurd c (by decide)) (fun _ => ?_)
                refine lv_aload_n hx hb dX9_resolves_80 rfl (lv_at hl 5 rfl) ?_
                refine lv_iload hx hb dX9_resolves_81 (lv_at hl 0 rfl) ?_
                refine lv_iload hx hb dX9_resolves_83 (lv_at hl 1 rfl) ?_
                refine mcl_i (run_V hC (c9_yieldsTo l G ma Mr none o r hI hir.c (by omega) (by omega) ((hir.r.1 _ (show o < nR Mr by omega)).1) (asks_goal hir (show o < nR Mr by omega) haO) ((hir.r.1 _ (show o < nR Mr by omega)).2.1.go hir.c)) (As := [.int (nI o), .int (nI r)]) (rest := []) rfl rfl ml_X9_214 im_X9_yieldsTo se_X9_yieldsTo ini_X9 cd_X9_yieldsTo ⟨rfl, na_X9_yieldsTo⟩ mB_blind (mr_recv hK hM) (mr_B hK hM) hl.1 (Nat.le_of_ble_eq_true rfl) ⟨Nat.le_of_ble_eq_true rfl, Nat.le_of_ble_eq_true rfl⟩ ⟨Nat.le_refl _, Nat.le_refl _⟩ rfl dX9_resolves_85) hS (fun _ h => h) (fun r9 M9 H locs hp9 hM hS => ?_)
                obtain ⟨hr9, hm9⟩ := hp9
                refine top_i hr9 ?_
                rcases hy9 : yldB Mr o r with _ | _
                · refine top_i (y := 0) rfl ?_
                  have hM : WS G ma Mr none H := by rw [hm9, hy9] at hM; exact hM
                  refine lv_if_ne (tgt := 101) hx hb dX9_resolves_88 (by decide) (fun c => absurd c (by decide)) (fun _ => ?_)
                  refine lv_aload_n hx hb dX9_resolves_91 rfl (lv_at hl 5 rfl) ?_
                  refine lv_dup hx hb dX9_resolves_92 rfl ?_
                  refine ms_get hC hK hM 31 (by decide) fl_X9_217 rfl (v := .int (Mr 31 0)) rfl (fun q => rfl) dX9_resolves_93 ?_
                  refine lv_iconst (v := 1) hx hb dX9_resolves_96 (by decide) ?_
                  refine lv_iadd hx hb dX9_resolves_97 ?_
                  refine ms_put hC hK hI hM hS mA_0 31 (by decide) rfl fl_X9_217 rfl rfl rfl rfl dX9_resolves_98 (fun H locs hM hS => ?_)
                  refine lv_iinc (v := nI (r + 1)) (lv' := [(1, .int (nI (r + 1))), (5, .int (nI o)), (4, .int (nI r)), (3, .int (nI o)), (2, .int (nI (rgN Mr r))), (0, .ref (ma 0))]) hx hb dX9_resolves_101 hl (k := 4) rfl (nI_inc _) (by decide) rfl (fun ls hl => ?_)
                  refine lv_goto (tgt := 2) hx hb dX9_resolves_104 (by decide) ?_
                  exact ih1 (r + 1) (mset Mr 31 0 ((Mr 31 0) + 1)) H locs ls (by omega) (by rw [itR_s, ← hMr]; exact ((resS_2 c_4f).trans ((brkF_1 (lo := r) (hi := o) ho (if_neg (by rw [c_5t]; exact fun q => by cases q)) (if_neg (by rw [c_5t]; exact fun q => by cases q))).trans (by simp only [hy7, hy9, if_true, if_false, Bool.false_eq_true]))).symm) hM hS (by omega) (lv_sub hl [0, 5] rfl)
                · refine top_i (y := 1) rfl ?_
                  have hM : WS G ma (yldG Mr o r) none H := by rw [hm9, hy9] at hM; exact hM
                  refine lv_if_ne (tgt := 101) hx hb dX9_resolves_88 (by decide) (fun _ => ?_) (fun c => absurd c (by decide))
                  refine lv_iinc (v := nI (r + 1)) (lv' := [(1, .int (nI (r + 1))), (5, .int (nI o)), (4, .int (nI r)), (3, .int (nI o)), (2, .int (nI (rgN Mr r))), (0, .ref (ma 0))]) hx hb dX9_resolves_101 hl (k := 4) rfl (nI_inc _) (by decide) rfl (fun ls hl => ?_)
                  refine lv_goto (tgt := 2) hx hb dX9_resolves_104 (by decide) ?_
                  exact ih1 (r + 1) (yldG Mr o r) H locs ls (by omega) (by rw [itR_s, ← hMr]; exact ((resS_2 c_4f).trans ((brkF_1 (lo := r) (hi := o) ho (if_neg (by rw [c_5t]; exact fun q => by cases q)) (if_neg (by rw [c_5t]; exact fun q => by cases q))).trans (by simp only [hy7, hy9, if_true, if_false, Bool.false_eq_true]))).symm) hM hS (by omega) (lv_sub hl [0, 5] rfl)
              · refine top_i (y := 1) rfl ?_
                have hM : WS G ma (yldG Mr r o) none H := by rw [hm7, hy7] at hM; exact hM
                refine lv_if_ne (tgt := 101) hx hb dX9_resolves_77 (by decide) (fun _ => ?_) (fun c => absurd c (by decide))
                refine lv_iinc (v := nI (r + 1)) (lv' := [(1, .int (nI (r + 1))), (5, .int (nI o)), (4, .int (nI r)), (3, .int (nI o)), (2, .int (nI (rgN Mr r))), (0, .ref (ma 0))]) hx hb dX9_resolves_101 hl (k := 4) rfl (nI_inc _) (by decide) rfl (fun ls hl => ?_)
                refine lv_goto (tgt := 2) hx hb dX9_resolves_104 (by decide) ?_
                exact ih1 (r + 1) (yldG Mr r o) H locs ls (by omega) (by rw [itR_s, ← hMr]; exact ((resS_2 c_4f).trans ((brkF_1 (lo := r) (hi := o) ho (if_neg (by rw [c_5t]; exact fun q => by cases q)) (if_neg (by rw [c_5t]; exact fun q => by cases q))).trans (by simp only [hy7, if_true, if_false, Bool.false_eq_true]))).symm) hM hS (by omega) (lv_sub hl [0, 5] rfl)
            · refine lv_iload_n hx hb dX9_resolves_49 rfl (lv_at hl 0 rfl) ?_
              refine lv_goto (tgt := 54) hx hb dX9_resolves_50 (by decide) ?_
              refine lv_istore (lv' := [(4, .int (nI o)), (3, .int (nI o)), (2, .int (nI (rgN Mr r))), (1, .int (nI r)), (0, .ref (ma 0))]) hx hb dX9_resolves_54 hl (by decide) rfl (fun ls hl => ?_)
              refine lv_iload hx hb dX9_resolves_56 (lv_at hl 0 rfl) ?_
              refine lv_iload_n hx hb dX9_resolves_58 rfl (lv_at hl 3 rfl) ?_
              refine ln_ne (tgt := 66) (a := o) (b := r) hx hb dX9_resolves_59 (by decide) rfl rfl (by omega) (by omega) (fun _ => ?_) (fun c => absurd c.symm hne)
              refine lv_iload_n hx hb dX9_resolves_66 rfl (lv_at hl 3 rfl) ?_
              refine lv_istore (lv' := [(5, .int (nI r)), (4, .int (nI o)), (3, .int (nI o)), (2, .int (nI (rgN Mr r))), (1, .int (nI r)), (0, .ref (ma 0))]) hx hb dX9_resolves_67 hl (by decide) rfl (fun ls hl => ?_)
              refine lv_aload_n hx hb dX9_resolves_69 rfl (lv_at hl 5 rfl) ?_
              refine lv_iload hx hb dX9_resolves_70 (lv_at hl 1 rfl) ?_
              refine lv_iload hx hb dX9_resolves_72 (lv_at hl 0 rfl) ?_
              refine mcl_i (run_V hC (c9_yieldsTo l G ma Mr none o r hI hir.c (by omega) (by omega) ((hir.r.1 _ (show o < nR Mr by omega)).1) (asks_goal hir (show o < nR Mr by omega) haO) ((hir.r.1 _ (show o < nR Mr by omega)).2.1.go hir.c)) (As := [.int (nI o), .int (nI r)]) (rest := []) rfl rfl ml_X9_214 im_X9_yieldsTo se_X9_yieldsTo ini_X9 cd_X9_yieldsTo ⟨rfl, na_X9_yieldsTo⟩ mB_blind (mr_recv hK hM) (mr_B hK hM) hl.1 (Nat.le_of_ble_eq_true rfl) ⟨Nat.le_of_ble_eq_true rfl, Nat.le_of_ble_eq_true rfl⟩ ⟨Nat.le_refl _, Nat.le_refl _⟩ rfl dX9_resolves_74) hS (fun _ h => h) (fun r14 M14 H locs hp14 hM hS => ?_)
              obtain ⟨hr14, hm14⟩ := hp14
              refine top_i hr14 ?_
              rcases hy14 : yldB Mr o r with _ | _
              · refine top_i (y := 0) rfl ?_
                have hM : WS G ma Mr none H := by rw [hm14, hy14] at hM; exact hM
                refine lv_if_ne (tgt := 101) hx hb dX9_resolves_77 (by decide) (fun c => absurd c (by decide)) (fun _ => ?_)
                refine lv_aload_n hx hb dX9_resolves_80 rfl (lv_at hl 5 rfl) ?_
                refine lv_iload hx hb dX9_resolves_81 (lv_at hl 0 rfl) ?_
                refine lv_iload hx hb dX9_resolves_83 (lv_at hl 1 rfl) ?_
                refine mcl_i (run_V hC (c9_yieldsTo l G ma Mr none r o hI hir.c (by omega) (by omega) ((hir.r.1 _ (show r < nR Mr by omega)).1) (asks_goal hir (show r < nR Mr by omega) haR) ((hir.r.1 _ (show r < nR Mr by omega)).2.1.go hir.c)) (As := [.int (nI r), .int (nI o)]) (rest := []) rfl rfl ml_X9_214 im_X9_yieldsTo se_X9_yieldsTo ini_X9 cd_X9_yieldsTo ⟨rfl, na_X9_yieldsTo⟩ mB_blind (mr_recv hK hM) (mr_B hK hM) hl.1 (Nat.le_of_ble_eq_true rfl) ⟨Nat.le_of_ble_eq_true rfl, Nat.le_of_ble_eq_true rfl⟩ ⟨Nat.le_refl _, Nat.le_refl _⟩ rfl dX9_resolves_85) hS (fun _ h => h) (fun r16 M16 H locs hp16 hM hS => ?_)
                obtain ⟨hr16, hm16⟩ := hp16
                refine top_i hr16 ?_
                rcases hy16 : yldB Mr r o with _ | _
                · refine top_i (y := 0) rfl ?_
                  have hM : WS G ma Mr none H := by rw [hm16, hy16] at hM; exact hM
                  refine lv_if_ne (tgt := 101) hx hb dX9_resolves_88 (by decide) (fun c => absurd c (by decide)) (fun _ => ?_)
                  refine lv_aload_n hx hb dX9_resolves_91 rfl (lv_at hl 5 rfl) ?_
                  refine lv_dup hx hb dX9_resolves_92 rfl ?_
                  refine ms_get hC hK hM 31 (by decide) fl_X9_217 rfl (v := .int (Mr 31 0)) rfl (fun q => rfl) dX9_resolves_93 ?_
                  refine lv_iconst (v := 1) hx hb dX9_resolves_96 (by decide) ?_
                  refine lv_iadd hx hb dX9_resolves_97 ?_
                  refine ms_put hC hK hI hM hS mA_0 31 (by decide) rfl fl_X9_217 rfl rfl rfl rfl dX9_resolves_98 (fun H locs hM hS => ?_)
                  refine lv_iinc (v := nI (r + 1)) (lv' := [(1, .int (nI (r + 1))), (5, .int (nI r)), (4, .int (nI o)), (3, .int (nI o)), (2, .int (nI (rgN Mr r))), (0, .ref (ma 0))]) hx hb dX9_resolves_101 hl (k := 4) rfl (nI_inc _) (by decide) rfl (fun ls hl => ?_)
                  refine lv_goto (tgt := 2) hx hb dX9_resolves_104 (by decide) ?_
                  exact ih1 (r + 1) (mset Mr 31 0 ((Mr 31 0) + 1)) H locs ls (by omega) (by rw [itR_s, ← hMr]; exact ((resS_2 c_4f).trans ((brkF_1 (lo := o) (hi := r) ho (if_pos c_5f) (if_pos c_5f)).trans (by simp only [hy14, hy16, if_true, if_false, Bool.false_eq_true]))).symm) hM hS (by omega) (lv_sub hl [0, 5] rfl)
                · refine top_i (y := 1) rfl ?_
                  have hM : WS G ma (yldG Mr r o) none H := by rw [hm16, hy16] at hM; exact hM
                  refine lv_if_ne (tgt := 101) hx hb dX9_resolves_88 (by decide) (fun _ => ?_) (fun c => absurd c (by decide))
                  refine lv_iinc (v := nI (r + 1)) (lv' := [(1, .int (nI (r + 1))), (5, .int (nI r)), (4, .int (nI o)), (3, .int (nI o)), (2, .int (nI (rgN Mr r))), (0, .ref (ma 0))]) hx hb dX9_resolves_101 hl (k := 4) rfl (nI_inc _) (by decide) rfl (fun ls hl => ?_)
                  refine lv_goto (tgt := 2) hx hb dX9_resolves_104 (by decide) ?_
                  exact ih1 (r + 1) (yldG Mr r o) H locs ls (by omega) (by rw [itR_s, ← hMr]; exact ((resS_2 c_4f).trans ((brkF_1 (lo := o) (hi := r) ho (if_pos c_5f) (if_pos c_5f)).trans (by simp only [hy14, hy16, if_true, if_false, Bool.false_eq_true]))).symm) hM hS (by omega) (lv_sub hl [0, 5] rfl)
              · refine top_i (y := 1) rfl ?_
                have hM : WS G ma (yldG Mr o r) none H := by rw [hm14, hy14] at hM; exact hM
                refine lv_if_ne (tgt := 101) hx hb dX9_resolves_77 (by decide) (fun _ => ?_) (fun c => absurd c (by decide))
                refine lv_iinc (v := nI (r + 1)) (lv' := [(1, .int (nI (r + 1))), (5, .int (nI r)), (4, .int (nI o)), (3, .int (nI o)), (2, .int (nI (rgN Mr r))), (0, .ref (ma 0))]) hx hb dX9_resolves_101 hl (k := 4) rfl (nI_inc _) (by decide) rfl (fun ls hl => ?_)
                refine lv_goto (tgt := 2) hx hb dX9_resolves_104 (by decide) ?_
                exact ih1 (r + 1) (yldG Mr o r) H locs ls (by omega) (by rw [itR_s, ← hMr]; exact ((resS_2 c_4f).trans ((brkF_1 (lo := o) (hi := r) ho (if_pos c_5f) (if_pos c_5f)).trans (by simp only [hy14, if_true, if_false, Bool.false_eq_true]))).symm) hM hS (by omega) (lv_sub hl [0, 5] rfl)
        · refine lv_aload_n hx hb dX9_resolves_21 rfl (lv_at hl 2 rfl) ?_
          refine lv_iload_n hx hb dX9_resolves_22 rfl (lv_at hl 1 rfl) ?_
          refine mcl_v (run_V hC (c9_turns l G ma Mr none r hI hir.c (by omega) (by omega)) (As := [.int (nI r)]) (rest := []) rfl rfl ml_X9_207 im_X9_turns se_X9_turns ini_X9 cd_X9_turns ⟨rfl, na_X9_turns⟩ mB_blind (mr_recv hK hM) (mr_B hK hM) hl.1 (Nat.le_of_ble_eq_true rfl) ⟨Nat.le_of_ble_eq_true rfl, Nat.le_of_ble_eq_true rfl⟩ ⟨Nat.le_refl _, Nat.le_refl _⟩ rfl dX9_resolves_23) hS (fun _ h => h) (fun M20 H locs hp20 hM hS => ?_)
          rw [hp20] at hM
          refine lv_goto (tgt := 101) hx hb dX9_resolves_26 (by decide) ?_
          refine lv_iinc (v := nI (r + 1)) (lv' := [(1, .int (nI (r + 1))), (2, .int (nI (rgN Mr r))), (0, .ref (ma 0))]) hx hb dX9_resolves_101 hl (k := 1) rfl (nI_inc _) (by decide) rfl (fun ls hl => ?_)
          refine lv_goto (tgt := 2) hx hb dX9_resolves_104 (by decide) ?_
          exact ih1 (r + 1) (trnF Mr r) H locs ls (by omega) (by rw [itR_s, ← hMr]; exact (resS_3 (by omega)).symm) hM hS (by omega) (lv_sub hl [0, 2] rfl)
  exact loop1 ((nR M - 0) + 1) 0 M H locs ls (Nat.zero_le _) rfl hM hS (by omega) (lv_sub hl [0, 1] rfl)
set_option maxHeartbeats 4000000 in
set_option maxRecDepth 100000 in
theorem c9_passes (l : Launch) (G : gG) (ma : Nat → Nat) (M : MS) (D : mD) (hI : mI ma) (hcnt : CNT M) (hinv_ : ∃ B, INV B M) (htn : tN M < 3000) : Met l yX9_passes (wB yX9_passes cX9_passes 2 none) (rmL 7 0 0) (va_Pc [.ref (ma 0)] (mB G ma M D)) (mQv G ma none (fun M' => M' = pasF M)) 0 0 (mA ma) := by
  refine st_N (own := RX9) (by decide +kernel) rfl (Nat.le_of_ble_eq_true rfl) ?_
  intro p e s m below meth c ls args Q hQ hC hr hlk hnm hl hP
  obtain ⟨hM, hK⟩ := hP
  have hx := hC.1
  have hb := hC.2.1
  have hl : lv_has ls 2 [(0, .ref (ma 0))] := hl
  have hS : va_S (mA ma) s.heap s.heap [] := va_S.rf
  obtain ⟨H, locs, hHe, hLe⟩ : ∃ (H : Heap) (locs : List Loc), H = s.heap ∧ locs = [] := ⟨_, _, rfl, rfl⟩
  rw [← hHe] at hM
  have hS : va_S (mA ma) s.heap H locs := by rw [hHe, hLe]; exact va_S.rf
  suffices hgo : W p l e (rmL 7 0 0) s m args below meth c H locs 0 0 Q (F0 m 0 ls []) by
    rw [hHe, hLe] at hgo
    exact hgo
  clear hHe hLe
  obtain ⟨B, hinv⟩ := hinv_
  have h6 := hcnt.R6
  have h3 := hcnt.S3
  have hM := hM.none
  refine lv_aload_n hx hb dX9_passes_0 rfl (lv_at hl 0 rfl) ?_
  refine lv_dup hx hb dX9_passes_1 rfl ?_
  refine ms_get hC hK hM 1 (by decide) fl_X9_171 rfl (v := .int (M 1 0)) rfl (fun q => rfl) dX9_passes_2 ?_
  refine lv_iconst (v := 1) hx hb dX9_passes_5 (by decide) ?_
  refine lv_iadd hx hb dX9_passes_6 ?_
  refine ms_put hC hK hI hM hS mA_0 1 (by decide) rfl fl_X9_171 rfl rfl rfl rfl dX9_passes_7 (fun H locs hM hS => ?_)
  refine lv_iconst (v := 0) hx hb dX9_passes_10 (by decide) ?_
  refine lv_istore_n (lv' := [(1, .int 0), (0, .ref (ma 0))]) hx hb dX9_passes_11 rfl hl (by decide) rfl (fun ls hl => ?_)
  have loop1 : ∀ (n_ : Nat) (r1 : Nat) (M1 : MS) (H : Heap) (locs : List Loc) (ls : Array Slot) (hM19 : r1 ≤ nR M) (hM1 : M1 = itR pkS r1 (tmS M)) (hM : WS G ma M1 none H) (hS : va_S (mA ma) s.heap H locs), nR M - r1 < n_ → lv_has ls 2 [(1, .int (nI r1)), (0, .ref (ma 0))] → W p l e (rmL 7 0 0) s m args below meth c H locs 0 0 Q (F0 m 12 ls []) := by
    intro n_
    induction n_ with
    | zero => intro r1 M1 H locs ls hM19 hM1 hM hS hm hl; omega
    | succ n_ ih1 =>
      intro r1 M1 H locs ls hM19 hM1 hM hS hm hl
      obtain ⟨hiM1, hkM1⟩ : INV B M1 ∧ kpt (tmS M) M1 := by rw [hM1]; exact ps1_inv hinv htn r1 hM19
      have hcM1 := hiM1.c
      have hnM1 : nR M1 = nR M := hkM1.eR
      have h6M1 := hcM1.R6
      refine lv_iload_n hx hb dX9_passes_12 rfl (lv_at hl 0 rfl) ?_
      refine lv_aload_n hx hb dX9_passes_13 rfl (lv_at hl 1 rfl) ?_
      refine ms_get hC hK hM 17 (by decide) fl_X9_103 rfl (v := .int (nI (nR M))) (congrArg Value.int (show M1 17 0 = (nI (nR M)) from (by rw [hkM1 17 rfl]; exact hcnt.R))) (fun q => rfl) dX9_passes_14 ?_
      refine ln_ge (tgt := 41) (a := r1) (b := (nR M)) hx hb dX9_passes_17 (by decide) rfl rfl (by omega) (by omega) (fun c_2t => ?_) (fun c_2f => ?_)
      · have eqM1 : M1 = ps1 M := by
          have e9 : r1 = nR M := by omega
          subst e9
          exact hM1
        refine lv_iconst (v := 0) hx hb dX9_passes_41 (by decide) ?_
        refine lv_istore_n (lv' := [(1, .int 0), (0, .ref (ma 0))]) hx hb dX9_passes_42 rfl hl (by decide) rfl (fun ls hl => ?_)
        have loop3 : ∀ (n_ : Nat) (r2 : Nat) (M2 : MS) (H : Heap) (locs : List Loc) (ls : Array Slot) (hM29 : r2 ≤ nS M) (hM2 : M2 = itR srvF r2 (ps1 M)) (hM : WS G ma M2 none H) (hS : va_S (mA ma) s.heap H locs), nS M - r2 < n_ → lv_has ls 2 [(1, .int (nI r2)), (0, .ref (ma 0))] → W p l e (rmL 7 0 0) s m args below meth c H locs 0 0 Q (F0 m 43 ls []) := by
          intro n_
          induction n_ with
          | zero => intro r2 M2 H locs ls hM29 hM2 hM hS hm hl; omega
          | succ n_ ih3 =>
            intro r2 M2 H locs ls hM29 hM2 hM hS hm hl
            obtain ⟨hiM2, hkM2⟩ : INV B M2 ∧ kpt (tmS M) M2 := by rw [hM2]; exact ps2_inv hinv htn r2 hM29
            have hcM2 := hiM2.c
            have hnM2 : nS M2 = nS M := hkM2.eS
            have h6M2 := hcM2.R6
            refine lv_iload_n hx hb dX9_passes_43 rfl (lv_at hl 0 rfl) ?_
            refine lv_aload_n hx hb dX9_passes_44 rfl (lv_at hl 1 rfl) ?_
            refine ms_get hC hK hM 4 (by decide) fl_X9_106 rfl (v := .int (nI (nS M))) (congrArg Value.int (show M2 4 0 = (nI (nS M)) from (by rw [hkM2 4 rfl]; exact hcnt.S))) (fun q => rfl) dX9_passes_45 ?_
            refine ln_ge (tgt := 62) (a := r2) (b := (nS M)) hx hb dX9_passes_48 (by decide) rfl rfl (by omega) (by omega) (fun c_4t => ?_) (fun c_4f => ?_)
            · have eqM2 : M2 = ps2 M := by
                have e9 : r2 = nS M := by omega
                subst e9
                exact hM2
              refine lv_iconst (v := 0) hx hb dX9_passes_62 (by decide) ?_
              refine lv_istore_n (lv' := [(1, .int 0), (0, .ref (ma 0))]) hx hb dX9_passes_63 rfl hl (by decide) rfl (fun ls hl => ?_)
              have loop5 : ∀ (n_ : Nat) (r3 : Nat) (M3 : MS) (H : Heap) (locs : List Loc) (ls : Array Slot) (hM39 : r3 ≤ nR M) (hM3 : M3 = itR askF r3 (ps2 M)) (hM : WS G ma M3 none H) (hS : va_S (mA ma) s.heap H locs), nR M - r3 < n_ → lv_has ls 2 [(1, .int (nI r3)), (0, .ref (ma 0))] → W p l e (rmL 7 0 0) s m args below meth c H locs 0 0 Q (F0 m 64 ls []) := by
                intro n_
                induction n_ with
                | zero => intro r3 M3 H locs ls hM39 hM3 hM hS hm hl; omega
                | succ n_ ih5 =>
                  intro r3 M3 H locs ls hM39 hM3 hM hS hm hl
                  obtain ⟨hiM3, hkM3⟩ : INV B M3 ∧ kpt (tmS M) M3 := by rw [hM3]; exact ps3_inv hinv htn r3 hM39
                  have hcM3 := hiM3.c
                  have hnM3 : nR M3 = nR M := hkM3.eR
                  have h6M3 := hcM3.R6
                  refine lv_iload_n hx hb dX9_passes_64 rfl (lv_at hl 0 rfl) ?_
                  refine lv_aload_n hx hb dX9_passes_65 rfl (lv_at hl 1 rfl) ?_
                  refine ms_get hC hK hM 17 (by decide) fl_X9_103 rfl (v := .int (nI (nR M))) (congrArg Value.int (show M3 17 0 = (nI (nR M)) from (by rw [hkM3 17 rfl]; exact hcnt.R))) (fun q => rfl) dX9_passes_66 ?_
                  refine ln_ge (tgt := 83) (a := r3) (b := (nR M)) hx hb dX9_passes_69 (by decide) rfl rfl (by omega) (by omega) (fun c_6t => ?_) (fun c_6f => ?_)
                  · have eqM3 : M3 = ps3 M := by
                      have e9 : r3 = nR M := by omega
                      subst e9
                      exact hM3
                    refine lv_aload_n hx hb dX9_passes_83 rfl (lv_at hl 1 rfl) ?_
                    refine mcl_v (run_V hC (c9_resolves l G ma M3 none hI hiM3.c (⟨B, hiM3⟩)) (As := []) (rest := []) rfl rfl ml_X9_232 im_X9_resolves se_X9_resolves ini_X9 cd_X9_resolves ⟨rfl, na_X9_resolves⟩ mB_blind (mr_recv hK hM) (mr_B hK hM) hl.1 (Nat.le_of_ble_eq_true rfl) ⟨Nat.le_of_ble_eq_true rfl, Nat.le_of_ble_eq_true rfl⟩ ⟨Nat.le_refl _, Nat.le_refl _⟩ rfl dX9_passes_84) hS (fun _ h => h) (fun M7 H locs hp7 hM hS => ?_)
                    rw [eqM3, (ps3_eq hinv htn).2.eR] at hp7
                    have hM : WS G ma (ps4 M) none H := by rw [hp7] at hM; exact hM
                    refine lv_iconst (v := 0) hx hb dX9_passes_87 (by decide) ?_
                    refine lv_istore_n (lv' := [(1, .int 0), (0, .ref (ma 0))]) hx hb dX9_passes_88 rfl hl (by decide) rfl (fun ls hl => ?_)
                    have loop8 : ∀ (n_ : Nat) (r5 : Nat) (M5 : MS) (H : Heap) (locs : List Loc) (ls : Array Slot) (hM59 : r5 ≤ nR M) (hM5 : M5 = itR asS r5 (ps4 M)) (hM : WS G ma M5 none H) (hS : va_S (mA ma) s.heap H locs), nR M - r5 < n_ → lv_has ls 2 [(1, .int (nI r5)), (0, .ref (ma 0))] → W p l e (rmL 7 0 0) s m args below meth c H locs 0 0 Q (F0 m 89 ls []) := by
                      intro n_
                      induction n_ with
                      | zero => intro r5 M5 H locs ls hM59 hM5 hM hS hm hl; omega
                      | succ n_ ih8 =>
                        intro r5 M5 H locs ls hM59 hM5 hM hS hm hl
                        obtain ⟨hiM5, hkM5⟩ : INV B M5 ∧ kpt (tmS M) M5 := by rw [hM5]; exact ps5_inv hinv htn r5 hM59
                        have hcM5 := hiM5.c
                        have hnM5 : nR M5 = nR M := hkM5.eR
                        have h6M5 := hcM5.R6
                        refine lv_iload_n hx hb dX9_passes_89 rfl (lv_at hl 0 rfl) ?_
                        refine lv_aload_n hx hb dX9_passes_90 rfl (lv_at hl 1 rfl) ?_
                        refine ms_get hC hK hM 17 (by decide) fl_X9_103 rfl (v := .int (nI (nR M))) (congrArg Value.int (show M5 17 0 = (nI (nR M)) from (by rw [hkM5 17 rfl]; exact hcnt.R))) (fun q => rfl) dX9_passes_91 ?_
                        refine ln_ge (tgt := 130) (a := r5) (b := (nR M)) hx hb dX9_passes_94 (by decide) rfl rfl (by omega) (by omega) (fun c_9t => ?_) (fun c_9f => ?_)
                        · have eqM5 : M5 = ps5 M := by
                            have e9 : r5 = nR M := by omega
                            subst e9
                            exact hM5
                          refine lv_aload_n hx hb dX9_passes_130 rfl (lv_at hl 1 rfl) ?_
                          refine mcl_v (run_V hC (c9_goes l G ma M5 none hI hiM5.c) (As := []) (rest := []) rfl rfl ml_X9_238 im_X9_goes se_X9_goes ini_X9 cd_X9_goes ⟨rfl, na_X9_goes⟩ mB_blind (mr_recv hK hM) (mr_B hK hM) hl.1 (Nat.le_of_ble_eq_true rfl) ⟨Nat.le_of_ble_eq_true rfl, Nat.le_of_ble_eq_true rfl⟩ ⟨Nat.le_refl _, Nat.le_refl _⟩ rfl dX9_passes_131) hS (fun _ h => h) (fun M10 H locs hp10 hM hS => ?_)
                          have hM : WS G ma (ps6 M) none H := by rw [hp10, eqM5] at hM; exact hM
                          refine lv_iconst (v := 0) hx hb dX9_passes_134 (by decide) ?_
                          refine lv_istore_n (lv' := [(1, .int 0), (0, .ref (ma 0))]) hx hb dX9_passes_135 rfl hl (by decide) rfl (fun ls hl => ?_)
                          have loop11 : ∀ (n_ : Nat) (r7 : Nat) (M7 : MS) (H : Heap) (locs : List Loc) (ls : Array Slot) (hM79 : r7 ≤ nR M) (hM7 : M7 = itR arrF r7 (ps6 M)) (hM : WS G ma M7 none H) (hS : va_S (mA ma) s.heap H locs), nR M - r7 < n_ → lv_has ls 2 [(1, .int (nI r7)), (0, .ref (ma 0))] → W p l e (rmL 7 0 0) s m args below meth c H locs 0 0 Q (F0 m 136 ls []) := by
                            intro n_
                            induction n_ with
                            | zero => intro r7 M7 H locs ls hM79 hM7 hM hS hm hl; omega
                            | succ n_ ih11 =>
                              intro r7 M7 H locs ls hM79 hM7 hM hS hm hl
                              obtain ⟨hiM7, hkM7⟩ : INV B M7 ∧ kpt (tmS M) M7 := by rw [hM7]; exact pas_inv hinv htn r7 hM79
                              have hcM7 := hiM7.c
                              have hnM7 : nR M7 = nR M := hkM7.eR
                              have h6M7 := hcM7.R6
                              refine lv_iload_n hx hb dX9_passes_136 rfl (lv_at hl 0 rfl) ?_
                              refine lv_aload_n hx hb dX9_passes_137 rfl (lv_at hl 1 rfl) ?_
                              refine ms_get hC hK hM 17 (by decide) fl_X9_103 rfl (v := .int (nI (nR M))) (congrArg Value.int (show M7 17 0 = (nI (nR M)) from (by rw [hkM7 17 rfl]; exact hcnt.R))) (fun q => rfl) dX9_passes_138 ?_
                              refine ln_ge (tgt := 155) (a := r7) (b := (nR M)) hx hb dX9_passes_141 (by decide) rfl rfl (by omega) (by omega) (fun c_12t => ?_) (fun c_12f => ?_)
                              · subst hQ
                                exact rt_mv hx hb hr hlk hM.none hS  (by rw [hM7, show r7 = nR M by omega, pasF]) dX9_passes_155
                              · refine lv_aload_n hx hb dX9_passes_144 rfl (lv_at hl 1 rfl) ?_
                                refine lv_iload_n hx hb dX9_passes_145 rfl (lv_at hl 0 rfl) ?_
                                refine mcl_v (run_V hC (c9_arrives l G ma M7 none r7 hI (by omega) ((hiM7.r.1 r7 (by omega)).2.1.go hcM7)) (As := [.int (nI r7)]) (rest := []) rfl rfl ml_X9_241 im_X9_arrives se_X9_arrives ini_X9 cd_X9_arrives ⟨rfl, na_X9_arrives⟩ mB_blind (mr_recv hK hM) (mr_B hK hM) hl.1 (Nat.le_of_ble_eq_true rfl) ⟨Nat.le_of_ble_eq_true rfl, Nat.le_of_ble_eq_true rfl⟩ ⟨Nat.le_refl _, Nat.le_refl _⟩ rfl dX9_passes_146) hS (fun _ h => h) (fun M13 H locs hp13 hM hS => ?_)
                                rw [hp13] at hM
                                refine lv_iinc (v := nI (r7 + 1)) (lv' := [(1, .int (nI (r7 + 1))), (0, .ref (ma 0))]) hx hb dX9_passes_149 hl (k := 0) rfl (nI_inc _) (by decide) rfl (fun ls hl => ?_)
                                refine lv_goto (tgt := 136) hx hb dX9_passes_152 (by decide) ?_
                                exact ih11 (r7 + 1) (arrF M7 r7) H locs ls (by omega) (by rw [itR_s, ← hM7]) hM hS (by omega) (lv_sub hl [0, 1] rfl)
                          exact loop11 ((nR M - 0) + 1) 0 (ps6 M) H locs ls (Nat.zero_le _) rfl hM hS (by omega) (lv_sub hl [0, 1] rfl)
                        · refine lv_aload_n hx hb dX9_passes_97 rfl (lv_at hl 1 rfl) ?_
                          refine ms_get hC hK hM 20 (by decide) fl_X9_50 rfl (v := .ref (ma 20)) rfl (fun q => rfl) dX9_passes_98 ?_
                          refine lv_iload_n hx hb dX9_passes_101 rfl (lv_at hl 0 rfl) ?_
                          refine ms_ild hC hK hM 20 (i := r5) (show r5 < 6 from by omega) (by decide) rfl rfl (v := M5 20 r5) rfl dX9_passes_102 ?_
                          refine lv_if_ne (tgt := 124) hx hb dX9_passes_103 (by decide) (fun c_14t => ?_) (fun c_14f => ?_)
                          · refine lv_iinc (v := nI (r5 + 1)) (lv' := [(1, .int (nI (r5 + 1))), (0, .ref (ma 0))]) hx hb dX9_passes_124 hl (k := 0) rfl (nI_inc _) (by decide) rfl (fun ls hl => ?_)
                            refine lv_goto (tgt := 89) hx hb dX9_passes_127 (by decide) ?_
                            exact ih8 (r5 + 1) M5 H locs ls (by omega) (by rw [itR_s, ← hM5]; exact (if_neg (fun q => c_14t q.1)).symm) hM hS (by omega) (lv_sub hl [0, 1] rfl)
                          · refine lv_aload_n hx hb dX9_passes_106 rfl (lv_at hl 1 rfl) ?_
                            refine lv_aload_n hx hb dX9_passes_107 rfl (lv_at hl 1 rfl) ?_
                            refine ms_get hC hK hM 18 (by decide) fl_X9_44 rfl (v := .ref (ma 18)) rfl (fun q => rfl) dX9_passes_108 ?_
                            refine lv_iload_n hx hb dX9_passes_111 rfl (lv_at hl 0 rfl) ?_
                            refine ms_ild hC hK hM 18 (i := r5) (show r5 < 6 from by omega) (by decide) rfl rfl (v := M5 18 r5) rfl dX9_passes_112 ?_
                            refine cl_p (run_V hC (c9_isAsked l G ma M5 none (M5 18 r5) hcM5) (As := [.int (M5 18 r5)]) (rest := []) rfl rfl ml_X9_220 im_X9_isAsked se_X9_isAsked ini_X9 cd_X9_isAsked ⟨rfl, na_X9_isAsked⟩ mB_blind (mr_recv hK hM) (mr_B hK hM) hl.1 (Nat.le_of_ble_eq_true rfl) ⟨Nat.le_of_ble_eq_true rfl, Nat.le_of_ble_eq_true rfl⟩ ⟨Nat.le_refl _, Nat.le_refl _⟩ rfl dX9_passes_113) ?_
                            refine lb_eq (tgt := 124) (b := (askdB M5 (M5 18 r5))) hx hb dX9_passes_116 (by decide) (fun c_15t => ?_) (fun c_15f => ?_)
                            · refine lv_iinc (v := nI (r5 + 1)) (lv' := [(1, .int (nI (r5 + 1))), (0, .ref (ma 0))]) hx hb dX9_passes_124 hl (k := 0) rfl (nI_inc _) (by decide) rfl (fun ls hl => ?_)
                              refine lv_goto (tgt := 89) hx hb dX9_passes_127 (by decide) ?_
                              exact ih8 (r5 + 1) M5 H locs ls (by omega) (by rw [itR_s, ← hM5]; exact (if_neg (fun q => by rw [c_15t] at q; cases q.2)).symm) hM hS (by omega) (lv_sub hl [0, 1] rfl)
                            · refine lv_aload_n hx hb dX9_passes_119 rfl (lv_at hl 1 rfl) ?_
                              refine lv_iload_n hx hb dX9_passes_120 rfl (lv_at hl 0 rfl) ?_
                              refine mcl_v (run_V hC (c9_stepsAside l G ma M5 none r5 hI hcM5 (by omega) ((hiM5.r.1 r5 (by omega)).1)) (As := [.int (nI r5)]) (rest := []) rfl rfl ml_X9_235 im_X9_stepsAside se_X9_stepsAside ini_X9 cd_X9_stepsAside ⟨rfl, na_X9_stepsAside⟩ mB_blind (mr_recv hK hM) (mr_B hK hM) hl.1 (Nat.le_of_ble_eq_true rfl) ⟨Nat.le_of_ble_eq_true rfl, Nat.le_of_ble_eq_true rfl⟩ ⟨Nat.le_refl _, Nat.le_refl _⟩ rfl dX9_passes_121) hS (fun _ h => h) (fun M16 H locs hp16 hM hS => ?_)
                              rw [hp16] at hM
                              refine lv_iinc (v := nI (r5 + 1)) (lv' := [(1, .int (nI (r5 + 1))), (0, .ref (ma 0))]) hx hb dX9_passes_124 hl (k := 0) rfl (nI_inc _) (by decide) rfl (fun ls hl => ?_)
                              refine lv_goto (tgt := 89) hx hb dX9_passes_127 (by decide) ?_
                              exact ih8 (r5 + 1) (asdF M5 r5) H locs ls (by omega) (by rw [itR_s, ← hM5]; exact (if_pos ⟨c_14f, c_15f⟩).symm) hM hS (by omega) (lv_sub hl [0, 1] rfl)
                    exact loop8 ((nR M - 0) + 1) 0 (ps4 M) H locs ls (Nat.zero_le _) rfl hM hS (by omega) (lv_sub hl [0, 1] rfl)
                  · refine lv_aload_n hx hb dX9_passes_72 rfl (lv_at hl 1 rfl) ?_
                    refine lv_iload_n hx hb dX9_passes_73 rfl (lv_at hl 0 rfl) ?_
                    refine mcl_v (run_V hC (c9_asksFor l G ma M3 none r3 hI hcM3 (by omega) ((hiM3.r.1 r3 (by omega)).1) (goalV_c hiM3 (by omega)) ((hiM3.r.1 r3 (by omega)).2.1.go hcM3)) (As := [.int (nI r3)]) (rest := []) rfl rfl ml_X9_229 im_X9_asksFor se_X9_asksFor ini_X9 cd_X9_asksFor ⟨rfl, na_X9_asksFor⟩ mB_blind (mr_recv hK hM) (mr_B hK hM) hl.1 (Nat.le_of_ble_eq_true rfl) ⟨Nat.le_of_ble_eq_true rfl, Nat.le_of_ble_eq_true rfl⟩ ⟨Nat.le_refl _, Nat.le_refl _⟩ rfl dX9_passes_74) hS (fun _ h => h) (fun M17 H locs hp17 hM hS => ?_)
                    rw [hp17] at hM
                    refine lv_iinc (v := nI (r3 + 1)) (lv' := [(1, .int (nI (r3 + 1))), (0, .ref (ma 0))]) hx hb dX9_passes_77 hl (k := 0) rfl (nI_inc _) (by decide) rfl (fun ls hl => ?_)
                    refine lv_goto (tgt := 64) hx hb dX9_passes_80 (by decide) ?_
                    exact ih5 (r3 + 1) (askF M3 r3) H locs ls (by omega) (by rw [itR_s, ← hM3]) hM hS (by omega) (lv_sub hl [0, 1] rfl)
              exact loop5 ((nR M - 0) + 1) 0 M2 H locs ls (Nat.zero_le _) eqM2 hM hS (by omega) (lv_sub hl [0, 1] rfl)
            · refine lv_aload_n hx hb dX9_passes_51 rfl (lv_at hl 1 rfl) ?_
              refine lv_iload_n hx hb dX9_passes_52 rfl (lv_at hl 0 rfl) ?_
              refine mcl_v (run_V hC (c9_serves l G ma M2 none r2 hI hcM2 (by omega) hiM2.hW hiM2.hH hiM2.hSC hiM2.r.hVC) (As := [.int (nI r2)]) (rest := []) rfl rfl ml_X9_226 im_X9_serves se_X9_serves ini_X9 cd_X9_serves ⟨rfl, na_X9_serves⟩ mB_blind (mr_recv hK hM) (mr_B hK hM) hl.1 (Nat.le_of_ble_eq_true rfl) ⟨Nat.le_of_ble_eq_true rfl, Nat.le_of_ble_eq_true rfl⟩ ⟨Nat.le_refl _, Nat.le_refl _⟩ rfl dX9_passes_53) hS (fun _ h => h) (fun M18 H locs hp18 hM hS => ?_)
              rw [hp18] at hM
              refine lv_iinc (v := nI (r2 + 1)) (lv' := [(1, .int (nI (r2 + 1))), (0, .ref (ma 0))]) hx hb dX9_passes_56 hl (k := 0) rfl (nI_inc _) (by decide) rfl (fun ls hl => ?_)
              refine lv_goto (tgt := 43) hx hb dX9_passes_59 (by decide) ?_
              exact ih3 (r2 + 1) (srvF M2 r2) H locs ls (by omega) (by rw [itR_s, ← hM2]) hM hS (by omega) (lv_sub hl [0, 1] rfl)
        exact loop3 ((nS M - 0) + 1) 0 M1 H locs ls (Nat.zero_le _) eqM1 hM hS (by omega) (lv_sub hl [0, 1] rfl)
      · refine lv_aload_n hx hb dX9_passes_20 rfl (lv_at hl 1 rfl) ?_
        refine ms_get hC hK hM 20 (by decide) fl_X9_50 rfl (v := .ref (ma 20)) rfl (fun q => rfl) dX9_passes_21 ?_
        refine lv_iload_n hx hb dX9_passes_24 rfl (lv_at hl 0 rfl) ?_
        refine ms_ild hC hK hM 20 (i := r1) (show r1 < 6 from by omega) (by decide) rfl rfl (v := M1 20 r1) rfl dX9_passes_25 ?_
        refine lv_iconst (v := 3) hx hb dX9_passes_26 (by decide) ?_
        refine lv_icmp_ne (tgt := 35) hx hb dX9_passes_27 (by decide) (fun c_19t => ?_) (fun c_19f => ?_)
        · refine lv_iinc (v := nI (r1 + 1)) (lv' := [(1, .int (nI (r1 + 1))), (0, .ref (ma 0))]) hx hb dX9_passes_35 hl (k := 0) rfl (nI_inc _) (by decide) rfl (fun ls hl => ?_)
          refine lv_goto (tgt := 12) hx hb dX9_passes_38 (by decide) ?_
          exact ih1 (r1 + 1) M1 H locs ls (by omega) (by rw [itR_s, ← hM1]; exact (if_neg c_19t).symm) hM hS (by omega) (lv_sub hl [0, 1] rfl)
        · refine lv_aload_n hx hb dX9_passes_30 rfl (lv_at hl 1 rfl) ?_
          refine lv_iload_n hx hb dX9_passes_31 rfl (lv_at hl 0 rfl) ?_
          refine mcl_v (run_V hC (c9_picksFrom l G ma M1 none r1 hI (by omega) (by obtain ⟨t, k, s_, n_, a1, a2, a3, a4, a5⟩ := srvg hiM1 (show r1 < nR M1 by omega) c_19f; exact ⟨k, VL_lt hcM1 a3, a4⟩) (by obtain ⟨t, k, s_, n_, a1, a2, a3⟩ := srvg hiM1 (show r1 < nR M1 by omega) c_19f; exact ⟨t, by have := hcM1.T16; omega, a2, (hiM1.f.2.1 t a1).2⟩) hiM1.p.1 (pk_1500 hiM1 (show r1 < nR M1 by omega) c_19f)) (As := [.int (nI r1)]) (rest := []) rfl rfl ml_X9_223 im_X9_picksFrom se_X9_picksFrom ini_X9 cd_X9_picksFrom ⟨rfl, na_X9_picksFrom⟩ mB_blind (mr_recv hK hM) (mr_B hK hM) hl.1 (Nat.le_of_ble_eq_true rfl) ⟨Nat.le_of_ble_eq_true rfl, Nat.le_of_ble_eq_true rfl⟩ ⟨Nat.le_refl _, Nat.le_refl _⟩ rfl dX9_passes_32) hS (fun _ h => h) (fun M20 H locs hp20 hM hS => ?_)
          rw [hp20] at hM
          refine lv_iinc (v := nI (r1 + 1)) (lv' := [(1, .int (nI (r1 + 1))), (0, .ref (ma 0))]) hx hb dX9_passes_35 hl (k := 0) rfl (nI_inc _) (by decide) rfl (fun ls hl => ?_)
          refine lv_goto (tgt := 12) hx hb dX9_passes_38 (by decide) ?_
          exact ih1 (r1 + 1) (pkF M1 r1) H locs ls (by omega) (by rw [itR_s, ← hM1]; exact (if_pos c_19f).symm) hM hS (by omega) (lv_sub hl [0, 1] rfl)
  exact loop1 ((nR M - 0) + 1) 0 (mset M 1 0 ((M 1 0) + 1)) H locs ls (Nat.zero_le _) rfl hM hS (by omega) (lv_sub hl [0, 1] rfl)
theorem INV_thr {B : Nat} {M : MS} {x : Int32} (h : INV B M) : INV B (mset M 0 0 x) := h
set_option maxHeartbeats 4000000 in
set_option maxRecDepth 100000 in
theorem c9_tick (l : Launch) (G : gG) (ma : Nat → Nat) (M : MS) (D : mD) (x : Int32) (hI : mI ma) (hcnt : CNT M) (hinv_ : ∃ B, INV B M) : Met l yX9_tick (wB yX9_tick cX9_tick 4 (some .int)) (rmL 8 0 0) (va_Pc [.ref (ma 0), .int x] (mB G ma M D)) (mQi G ma none (fun q M' => q = tkR M x ∧ M' = tkF M x)) 0 0 (mA ma) := by
  refine st_N (own := RX9) (by decide +kernel) rfl (Nat.le_of_ble_eq_true rfl) ?_
  intro p e s m below meth c ls args Q hQ hC hr hlk hnm hl hP
  obtain ⟨hM, hK⟩ := hP
  have hx := hC.1
  have hb := hC.2.1
  have hl : lv_has ls 4 [(0, .ref (ma 0)), (1, .int x)] := hl
  have hS : va_S (mA ma) s.heap s.heap [] := va_S.rf
  obtain ⟨H, locs, hHe, hLe⟩ : ∃ (H : Heap) (locs : List Loc), H = s.heap ∧ locs = [] := ⟨_, _, rfl, rfl⟩
  rw [← hHe] at hM
  have hS : va_S (mA ma) s.heap H locs := by rw [hHe, hLe]; exact va_S.rf
  suffices hgo : W p l e (rmL 8 0 0) s m args below meth c H locs 0 0 Q (F0 m 0 ls []) by
    rw [hHe, hLe] at hgo
    exact hgo
  clear hHe hLe
  obtain ⟨B, hinv⟩ := hinv_
  have hM := hM.none
  refine lv_aload_n hx hb dX9_tick_0 rfl (lv_at hl 0 rfl) ?_
  refine lv_iload_n hx hb dX9_tick_1 rfl (lv_at hl 1 rfl) ?_
  refine lv_iconst (v := 1) hx hb dX9_tick_2 (by decide) ?_
  refine lv_icmp_lt (tgt := 12) hx hb dX9_tick_3 (by decide) (fun c_1t => ?_) (fun c_1f => ?_)
  · refine lv_iconst (v := 1) hx hb dX9_tick_12 (by decide) ?_
    refine lv_goto (tgt := 33) hx hb dX9_tick_13 (by decide) ?_
    refine mcl_i (run_V hC (c9_holds l G ma M none 1 hI) (As := [.int 1]) (rest := []) rfl rfl ml_X9_140 im_X9_holds se_X9_holds ini_X9 cd_X9_holds ⟨rfl, na_X9_holds⟩ mB_blind (mr_recv hK hM) (mr_B hK hM) hl.1 (Nat.le_of_ble_eq_true rfl) ⟨Nat.le_of_ble_eq_true rfl, Nat.le_of_ble_eq_true rfl⟩ ⟨Nat.le_refl _, Nat.le_refl _⟩ rfl dX9_tick_33) hS (fun _ h => h) (fun r2 M2 H locs hp2 hM hS => ?_)
    obtain ⟨hr2, hm2⟩ := hp2
    rw [hm2] at hM
    refine top_i (y := 0) (hr2.trans (by decide)) ?_
    refine lv_if_ne (tgt := 41) hx hb dX9_tick_36 (by decide) (fun c => absurd c (by decide)) (fun _ => ?_)
    refine lv_iconst (v := 0) hx hb dX9_tick_39 (by decide) ?_
    subst hQ
    exact rt_mi hx hb hr hlk hM.none hS  (⟨by rw [tkR, if_neg (by rw [show tkT M x = 1 from by rw [tkT, if_pos (Or.inl c_1t)]]; decide)], by rw [tkF, if_neg (by rw [show tkT M x = 1 from by rw [tkT, if_pos (Or.inl c_1t)]]; decide), show tkT M x = 1 from by rw [tkT, if_pos (Or.inl c_1t)]]; rfl⟩) dX9_tick_40
  · refine lv_iload_n hx hb dX9_tick_6 rfl (lv_at hl 1 rfl) ?_
    refine lv_bipush (v := 50) hx hb dX9_tick_7 (by decide) ?_
    refine lv_icmp_le (tgt := 16) hx hb dX9_tick_9 (by decide) (fun c_4t => ?_) (fun c_4f => ?_)
    · refine lv_aload_n hx hb dX9_tick_16 rfl (lv_at hl 0 rfl) ?_
      refine ms_get hC hK hM 1 (by decide) fl_X9_171 rfl (v := .int (M 1 0)) rfl (fun q => rfl) dX9_tick_17 ?_
      refine lv_iload_n hx hb dX9_tick_20 rfl (lv_at hl 1 rfl) ?_
      refine lv_iadd hx hb dX9_tick_21 ?_
      refine lv_sipush (v := 3000) hx hb dX9_tick_22 (by decide) ?_
      refine lv_icmp_le (tgt := 32) hx hb dX9_tick_25 (by decide) (fun c_5t => ?_) (fun c_5f => ?_)
      · refine lv_iconst (v := 0) hx hb dX9_tick_32 (by decide) ?_
        refine mcl_i (run_V hC (c9_holds l G ma M none 0 hI) (As := [.int 0]) (rest := []) rfl rfl ml_X9_140 im_X9_holds se_X9_holds ini_X9 cd_X9_holds ⟨rfl, na_X9_holds⟩ mB_blind (mr_recv hK hM) (mr_B hK hM) hl.1 (Nat.le_of_ble_eq_true rfl) ⟨Nat.le_of_ble_eq_true rfl, Nat.le_of_ble_eq_true rfl⟩ ⟨Nat.le_refl _, Nat.le_refl _⟩ rfl dX9_tick_33) hS (fun _ h => h) (fun r6 M6 H locs hp6 hM hS => ?_)
        obtain ⟨hr6, hm6⟩ := hp6
        rw [hm6] at hM
        refine top_i (y := 1) (hr6.trans (by decide)) ?_
        refine lv_if_ne (tgt := 41) hx hb dX9_tick_36 (by decide) (fun _ => ?_) (fun c => absurd c (by decide))
        obtain ⟨j, hj, rfl⟩ := nI_of2 (x := x) (M := 50) (n := 50) (by decide) (fun q => c_1f (Int32.lt_trans q (by decide))) c_4t
        have hxj := ix_nI (n := j) (by omega)
        have htj : tN M + j ≤ 3000 := by have := hinv.f.2.2.2.2.2.2.2; have q := c_5t; rw [this.1, nI_add] at q; exact (nI_leI (a := tN M + j) (b := 3000) (by omega) (by decide)).mp q
        have hT : tkT M (nI j) = 0 := by rw [tkT, if_neg (fun q => q.elim c_1f (fun q => q c_4t)), if_neg (fun q => q c_5t)]
        refine lv_aload_n hx hb dX9_tick_41 rfl (lv_at hl 0 rfl) ?_
        refine ms_get hC hK hM 34 (by decide) fl_X9_168 rfl (v := .int (M 34 0)) rfl (fun q => rfl) dX9_tick_42 ?_
        refine lv_istore_n (lv' := [(2, .int (M 34 0)), (0, .ref (ma 0)), (1, .int (nI j))]) hx hb dX9_tick_45 rfl hl (by decide) rfl (fun ls hl => ?_)
        refine lv_iconst (v := 0) hx hb dX9_tick_46 (by decide) ?_
        refine lv_istore_n (lv' := [(3, .int 0), (2, .int (M 34 0)), (0, .ref (ma 0)), (1, .int (nI j))]) hx hb dX9_tick_47 rfl hl (by decide) rfl (fun ls hl => ?_)
        have loop8 : ∀ (n_ : Nat) (k : Nat) (Mk : MS) (H : Heap) (locs : List Loc) (ls : Array Slot) (hk : k ≤ j) (hMk : Mk = itP k (thr M 0)) (hM : WS G ma Mk none H) (hS : va_S (mA ma) s.heap H locs), j - k < n_ → lv_has ls 4 [(3, .int (nI k)), (2, .int (M 34 0)), (0, .ref (ma 0)), (1, .int (nI j))] → W p l e (rmL 8 0 0) s m args below meth c H locs 0 0 Q (F0 m 48 ls []) := by
          intro n_
          induction n_ with
          | zero => intro k Mk H locs ls hk hMk hM hS hm hl; omega
          | succ n_ ih8 =>
            intro k Mk H locs ls hk hMk hM hS hm hl
            obtain ⟨hik, htk⟩ : INV B Mk ∧ tN Mk = tN M + k := by rw [hMk]; exact itP_inv (INV_thr hinv) k (by show tN M + k ≤ 3000; omega)
            refine lv_iload_n hx hb dX9_tick_48 rfl (lv_at hl 0 rfl) ?_
            refine lv_iload_n hx hb dX9_tick_49 rfl (lv_at hl 3 rfl) ?_
            refine ln_ge (tgt := 63) (a := k) (b := j) hx hb dX9_tick_50 (by decide) rfl rfl (by omega) (by omega) (fun c_9t => ?_) (fun c_9f => ?_)
            · refine lv_aload_n hx hb dX9_tick_63 rfl (lv_at hl 2 rfl) ?_
              refine ms_get hC hK hM 34 (by decide) fl_X9_168 rfl (v := .int (Mk 34 0)) rfl (fun q => rfl) dX9_tick_64 ?_
              refine lv_iload_n hx hb dX9_tick_67 rfl (lv_at hl 1 rfl) ?_
              refine lv_isub hx hb dX9_tick_68 ?_
              subst hQ
              exact rt_mi hx hb hr hlk hM.none hS  (⟨by rw [tkR, if_pos hT, tkF, if_pos hT, hxj, hMk, show k = j by omega], by rw [tkF, if_pos hT, hxj, hMk, show k = j by omega]⟩) dX9_tick_69
            · refine lv_aload_n hx hb dX9_tick_53 rfl (lv_at hl 2 rfl) ?_
              refine mcl_v (run_V hC (c9_passes l G ma Mk none hI hik.c (⟨B, hik⟩) (by omega)) (As := []) (rest := []) rfl rfl ml_X9_244 im_X9_passes se_X9_passes ini_X9 cd_X9_passes ⟨rfl, na_X9_passes⟩ mB_blind (mr_recv hK hM) (mr_B hK hM) hl.1 (Nat.le_of_ble_eq_true rfl) ⟨Nat.le_of_ble_eq_true rfl, Nat.le_of_ble_eq_true rfl⟩ ⟨Nat.le_refl _, Nat.le_refl _⟩ rfl dX9_tick_54) hS (fun _ h => h) (fun M10 H locs hp10 hM hS => ?_)
              rw [hp10] at hM
              refine lv_iinc (v := nI (k + 1)) (lv' := [(3, .int (nI (k + 1))), (2, .int (M 34 0)), (0, .ref (ma 0)), (1, .int (nI j))]) hx hb dX9_tick_57 hl (k := 0) rfl (nI_inc _) (by decide) rfl (fun ls hl => ?_)
              refine lv_goto (tgt := 48) hx hb dX9_tick_60 (by decide) ?_
              exact ih8 (k + 1) (pasF Mk) H locs ls (by omega) (by show _ = pasF (itP k (thr M 0)); rw [← hMk]) hM hS (by omega) (lv_sub hl [0, 1, 2, 3] rfl)
        exact loop8 ((j - 0) + 1) 0 (mset M 0 0 0) H locs ls (Nat.zero_le _) rfl hM hS (by omega) (lv_sub hl [0, 1, 2, 3] rfl)
      · refine lv_iconst (v := 2) hx hb dX9_tick_28 (by decide) ?_
        refine lv_goto (tgt := 33) hx hb dX9_tick_29 (by decide) ?_
        refine mcl_i (run_V hC (c9_holds l G ma M none 2 hI) (As := [.int 2]) (rest := []) rfl rfl ml_X9_140 im_X9_holds se_X9_holds ini_X9 cd_X9_holds ⟨rfl, na_X9_holds⟩ mB_blind (mr_recv hK hM) (mr_B hK hM) hl.1 (Nat.le_of_ble_eq_true rfl) ⟨Nat.le_of_ble_eq_true rfl, Nat.le_of_ble_eq_true rfl⟩ ⟨Nat.le_refl _, Nat.le_refl _⟩ rfl dX9_tick_33) hS (fun _ h => h) (fun r11 M11 H locs hp11 hM hS => ?_)
        obtain ⟨hr11, hm11⟩ := hp11
        rw [hm11] at hM
        refine top_i (y := 0) (hr11.trans (by decide)) ?_
        refine lv_if_ne (tgt := 41) hx hb dX9_tick_36 (by decide) (fun c => absurd c (by decide)) (fun _ => ?_)
        refine lv_iconst (v := 0) hx hb dX9_tick_39 (by decide) ?_
        subst hQ
        exact rt_mi hx hb hr hlk hM.none hS  (⟨by rw [tkR, if_neg (by rw [show tkT M x = 2 from by rw [tkT, if_neg (fun q => q.elim c_1f (fun q => q c_4t)), if_pos c_5f]]; decide)], by rw [tkF, if_neg (by rw [show tkT M x = 2 from by rw [tkT, if_neg (fun q => q.elim c_1f (fun q => q c_4t)), if_pos c_5f]]; decide), show tkT M x = 2 from by rw [tkT, if_neg (fun q => q.elim c_1f (fun q => q c_4t)), if_pos c_5f]]; rfl⟩) dX9_tick_40
    · refine lv_iconst (v := 1) hx hb dX9_tick_12 (by decide) ?_
      refine lv_goto (tgt := 33) hx hb dX9_tick_13 (by decide) ?_
      refine mcl_i (run_V hC (c9_holds l G ma M none 1 hI) (As := [.int 1]) (rest := []) rfl rfl ml_X9_140 im_X9_holds se_X9_holds ini_X9 cd_X9_holds ⟨rfl, na_X9_holds⟩ mB_blind (mr_recv hK hM) (mr_B hK hM) hl.1 (Nat.le_of_ble_eq_true rfl) ⟨Nat.le_of_ble_eq_true rfl, Nat.le_of_ble_eq_true rfl⟩ ⟨Nat.le_refl _, Nat.le_refl _⟩ rfl dX9_tick_33) hS (fun _ h => h) (fun r13 M13 H locs hp13 hM hS => ?_)
      obtain ⟨hr13, hm13⟩ := hp13
      rw [hm13] at hM
      refine top_i (y := 0) (hr13.trans (by decide)) ?_
      refine lv_if_ne (tgt := 41) hx hb dX9_tick_36 (by decide) (fun c => absurd c (by decide)) (fun _ => ?_)
      refine lv_iconst (v := 0) hx hb dX9_tick_39 (by decide) ?_
      subst hQ
      exact rt_mi hx hb hr hlk hM.none hS  (⟨by rw [tkR, if_neg (by rw [show tkT M x = 1 from by rw [tkT, if_pos (Or.inr c_4f)]]; decide)], by rw [tkF, if_neg (by rw [show tkT M x = 1 from by rw [tkT, if_pos (Or.inr c_4f)]]; decide), show tkT M x = 1 from by rw [tkT, if_pos (Or.inr c_4f)]]; rfl⟩) dX9_tick_40
