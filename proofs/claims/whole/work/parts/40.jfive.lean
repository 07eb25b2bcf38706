/-! THE FLEET'S POINTS 5, 6, 8 -/
def RK (E E2 : ES) : Prop := EK E E2 ∧ eS E2 = eS E ∧ eN E2 6 = eN E 6 ∧ eL E2 6 = eL E 6 ∧ eC E2 6 = eC E 6 ∧ eC E2 3 = eC E 3
theorem RK.rf {E : ES} : RK E E := ⟨EK.rf, rfl, rfl, rfl, rfl, rfl⟩
theorem RK.tr {E E1 E2 : ES} (h : RK E E1) (h2 : RK E1 E2) : RK E E2 := ⟨h.1.tr h2.1, h2.2.1.trans h.2.1, h2.2.2.1.trans h.2.2.1, h2.2.2.2.1.trans h.2.2.2.1, h2.2.2.2.2.1.trans h.2.2.2.2.1, h2.2.2.2.2.2.trans h.2.2.2.2.2⟩
theorem RK.ch {E : ES} {n c : Nat} {f : Nat → Nat} : RK E (chE E 5 n f c) := by
  refine ⟨⟨rfl, rfl, fun i hi => ⟨?_, ?_⟩, fun i a b c => ?_⟩, rfl, rfl, rfl, rfl, rfl⟩
  · exact if_neg (by omega)
  · exact if_neg (by omega)
  · exact if_neg a
theorem uC_add {E : ES} {i n n' : Nat} {f : Nat → Nat} : uC (chE E i n' f (capN (eC E i) n)) i = 0 := by
  have h : eC (chE E i n' f (capN (eC E i) n)) i = capN (eC E i) n := if_pos rfl
  unfold uC
  rw [h, if_neg]
  unfold capN
  split
  · omega
  · split <;> omega
theorem chE_N {E : ES} {i n c : Nat} {f : Nat → Nat} : eN (chE E i n f c) i = n := if_pos rfl
theorem chE_L {E : ES} {i n c : Nat} {f : Nat → Nat} : eL (chE E i n f c) i = f := if_pos rfl
theorem chE_C {E : ES} {i n c : Nat} {f : Nat → Nat} : eC (chE E i n f c) i = c := if_pos rfl
theorem uC_same {E : ES} {i n : Nat} {f : Nat → Nat} : uC (chE E i n f (eC E i)) i = uC E i := by unfold uC; rw [chE_C]
def GR (M : MS) (r : Nat) (E E2 : ES) : Prop := RK E E2 ∧ eN E2 5 = rgN M r ∧ (∀ j, j < rgN M r → eL E2 5 j = rgI M r j) ∧ uC E2 5 = 0
theorem nxt_rb {B : Nat} {M : MS} (hI : INV B M) (x : Nat) : nxtA M x = rbA M (M 24 x) := by
  unfold nxtA
  split
  · rename_i h
    rw [h]
    exact (lastE_none.mpr (fun k hk q => by
      obtain ⟨j, hj, e⟩ := (hI.r.1 k hk).1
      rw [e] at q
      exact nI_m1 (by omega) q)).symm
  · rfl
theorem asks_way {B : Nat} {M : MS} (hI : INV B M) {r : Nat} (hr : r < nR M) (h : ¬ M 24 r = -1) : M 20 r = 1 ∨ M 20 r = 2 ∨ M 20 r = 4 := by
  rcases (hI.r.1 r hr).2.2.1 with q | q
  · exact absurd q h
  · exact q.2
theorem hD_.ofE {M : MS} {E E2 : ES} (h : hD_ M E) (he : RK E E2) : hD_ M E2 := fun q hq => by
  rw [← h q hq]
  unfold opE
  rw [he.1.2.1]
theorem rgS_r {M : MS} {r f n : Nat} : rgS M r (f + 1) n (some r) = n := by
  show (if r < r ∧ n < 6 then _ else if r = r then n else 0) = n
  rw [if_neg (by omega), if_pos rfl]
theorem rgS_n {M : MS} {r f n : Nat} : rgS M r (f + 1) n none = 0 := rfl
theorem rgS_l {M : MS} {r f n a : Nat} (h : a < r) : rgS M r (f + 1) n (some a) = 0 := by
  show (if r < a ∧ n < 6 then _ else if a = r then n else 0) = 0
  rw [if_neg (by omega), if_neg (by omega)]
theorem rgS_g {M : MS} {r f n a : Nat} (h : r < a) (hn : n < 6) : rgS M r (f + 1) n (some a) = rgS M r f (n + 1) (nxtA M a) := by
  show (if r < a ∧ n < 6 then _ else _) = _
  rw [if_pos ⟨h, hn⟩]
theorem rgS_6 {M : MS} {r f n a : Nat} (h : r < a) (hn : ¬ n < 6) : rgS M r (f + 1) n (some a) = 0 := by
  show (if r < a ∧ n < 6 then _ else if a = r then n else 0) = 0
  rw [if_neg (by omega), if_neg (by omega)]
set_option maxHeartbeats 4000000 in
set_option maxRecDepth 100000 in
theorem cJ_X0_cellAside (l : Launch) (G : gG) (d0 mi : Nat) (Rf : Nat → Prop) (ja : Nat → Nat → Nat) (M : MS) (E : ES) (f : Nat) (h9f : f < 64) (huq : uq18 M) (hD : hD_ M E) : Met l yX0_cellAside (wB yX0_cellAside cX0_cellAside 4 (some .int)) (rmL 4 0 0) (va_Pc [.ref (ja 0 0), .int (nI f)] (jB G d0 mi Rf ja M E)) (k2_QcV (.int (oI (fsW (asdf M f) 4)))) 0 0 fN := by
  refine st_N (own := RX0) (by decide +kernel) rfl (Nat.le_of_ble_eq_true rfl) ?_
  intro p e s m below meth c ls args Q hQ hC hr hlk hnm hl hP
  obtain ⟨hW, hX, hRf⟩ := hP
  have hK := hX.1
  have hx := hC.1
  have hb := hC.2.1
  have hl : lv_has ls 4 [(0, .ref (ja 0 0)), (1, .int (nI f))] := hl
  have hS : va_S (jA Rf) s.heap s.heap [] := va_S.rf
  refine lv_iconst (v := 0) hx hb dX0_cellAside_0 (by decide) ?_
  refine lv_istore_n (lv' := [(2, .int 0), (0, .ref (ja 0 0)), (1, .int (nI f))]) hx hb dX0_cellAside_1 rfl hl (by decide) rfl (fun ls hl => ?_)
  have loop1 : ∀ (n_ : Nat) (w : Nat) (hw : w ≤ 4) (hno : fsW (asdf M f) (4 - w) = fsW (asdf M f) 4) (ls : Array Slot), 4 - w < n_ → lv_has ls 4 [(2, .int (nI w)), (0, .ref (ja 0 0)), (1, .int (nI f))] → W p l e (rmL 4 0 0) s m args below meth c s.heap [] 0 0 Q (F0 m 2 ls []) := by
    intro n_
    induction n_ with
    | zero => intro w hw hno ls hm hl; omega
    | succ n_ ih1 =>
      intro w hw hno ls hm hl
      refine lv_iload_n hx hb dX0_cellAside_2 rfl (lv_at hl 0 rfl) ?_
      refine lv_iconst (v := 4) hx hb dX0_cellAside_3 (by decide) ?_
      refine ln_ge (tgt := 48) (a := w) (b := 4) hx hb dX0_cellAside_4 (by decide) rfl rfl (by omega) (by omega) (fun c_2t => ?_) (fun c_2f => ?_)
      · refine lv_iconst (v := (-1)) hx hb dX0_cellAside_48 (by decide) ?_
        subst hQ
        exact rt_i hx hb hr hlk (by rw [← hno, show 4 - w = 0 by omega]; rfl) dX0_cellAside_49
      · refine lv_iload_n hx hb dX0_cellAside_7 rfl (lv_at hl 2 rfl) ?_
        refine lv_iload_n hx hb dX0_cellAside_8 rfl (lv_at hl 0 rfl) ?_
        refine cl_p (run_S hC (cJ_X1_neighbour l f w (by omega) (by omega)) (As := [.int (nI f), .int (nI w)]) (rest := []) rfl rfl ml_X0_158 sm_X1_neighbour ini_X1 cd_X1_neighbour na_X1_neighbour tB_blind (fun _ _ _ => trivial) hl.1 (Nat.le_of_ble_eq_true rfl) ⟨Nat.le_of_ble_eq_true rfl, Nat.le_of_ble_eq_true rfl⟩ ⟨Nat.le_refl _, Nat.le_refl _⟩ rfl dX0_cellAside_9) ?_
        rcases hnb : nbr f w with _ | c0
        · refine top_i (y := -1) rfl ?_
          refine lv_istore_n (lv' := [(3, .int (-1)), (2, .int (nI w)), (0, .ref (ja 0 0)), (1, .int (nI f))]) hx hb dX0_cellAside_12 rfl hl (by decide) rfl (fun ls hl => ?_)
          refine lv_aload_n hx hb dX0_cellAside_13 rfl (lv_at hl 2 rfl) ?_
          refine r1_get hC hK.1 (hW.ob (show jV M 0 0 from rfl)) lay_X0 rfl 0 (by decide) fl_X0_12 (fun x hx => hx) (v := .ref (ja 1 0)) rfl dX0_cellAside_14 ?_
          refine lv_iload_n hx hb dX0_cellAside_17 rfl (lv_at hl 0 rfl) ?_
          refine cl_pi (x := 0) (run_V hC (cJ_X1_isOpen l G d0 mi Rf ja M E none (fun j hj => by cases hj)) (As := [.int (-1)]) (rest := []) rfl rfl ml_X0_162 im_X1_isOpen se_X1_isOpen ini_X1 cd_X1_isOpen ⟨rfl, na_X1_isOpen⟩ jB_blind (hW.recv hK (show jV M 1 0 from rfl) rfl) (jB_at hX hRf hW hS) hl.1 (Nat.le_of_ble_eq_true rfl) ⟨Nat.le_of_ble_eq_true rfl, Nat.le_of_ble_eq_true rfl⟩ ⟨Nat.le_refl _, Nat.le_refl _⟩ rfl dX0_cellAside_18) (rfl) ?_
          refine lv_if_eq (tgt := 42) hx hb dX0_cellAside_21 (by decide) (fun _ => ?_) (fun c => absurd c (by decide))
          refine lv_iinc (v := nI (w + 1)) (lv' := [(2, .int (nI (w + 1))), (3, .int (-1)), (0, .ref (ja 0 0)), (1, .int (nI f))]) hx hb dX0_cellAside_42 hl (k := 1) rfl (nI_inc _) (by decide) rfl (fun ls hl => ?_)
          refine lv_goto (tgt := 2) hx hb dX0_cellAside_45 (by decide) ?_
          exact ih1 (w + 1) (by omega) (by rw [← hno, show 4 - w = (4 - (w + 1)) + 1 by omega, fsW_s, show 3 - (4 - (w + 1)) = w by omega, show asdf M f w = none from by unfold asdf; rw [hnb]]) ls (by omega) (lv_sub hl [0, 2, 3] rfl)
        · have hc0 := nbr_lt f h9f w (by omega) c0 hnb
          refine top_i (y := nI c0) rfl ?_
          refine lv_istore_n (lv' := [(3, .int (nI c0)), (2, .int (nI w)), (0, .ref (ja 0 0)), (1, .int (nI f))]) hx hb dX0_cellAside_12 rfl hl (by decide) rfl (fun ls hl => ?_)
          refine lv_aload_n hx hb dX0_cellAside_13 rfl (lv_at hl 2 rfl) ?_
          refine r1_get hC hK.1 (hW.ob (show jV M 0 0 from rfl)) lay_X0 rfl 0 (by decide) fl_X0_12 (fun x hx => hx) (v := .ref (ja 1 0)) rfl dX0_cellAside_14 ?_
          refine lv_iload_n hx hb dX0_cellAside_17 rfl (lv_at hl 0 rfl) ?_
          refine cl_pi (x := bI (opE M E c0)) (run_V hC (cJ_X1_isOpen l G d0 mi Rf ja M E (some c0) (fun j hj => by cases hj; exact hc0)) (As := [.int (nI c0)]) (rest := []) rfl rfl ml_X0_162 im_X1_isOpen se_X1_isOpen ini_X1 cd_X1_isOpen ⟨rfl, na_X1_isOpen⟩ jB_blind (hW.recv hK (show jV M 1 0 from rfl) rfl) (jB_at hX hRf hW hS) hl.1 (Nat.le_of_ble_eq_true rfl) ⟨Nat.le_of_ble_eq_true rfl, Nat.le_of_ble_eq_true rfl⟩ ⟨Nat.le_refl _, Nat.le_refl _⟩ rfl dX0_cellAside_18) (rfl) ?_
          refine lb_eq (tgt := 42) (b := (opE M E c0)) hx hb dX0_cellAside_21 (by decide) (fun c_4t => ?_) (fun c_4f => ?_)
          · refine lv_iinc (v := nI (w + 1)) (lv' := [(2, .int (nI (w + 1))), (3, .int (nI c0)), (0, .ref (ja 0 0)), (1, .int (nI f))]) hx hb dX0_cellAside_42 hl (k := 1) rfl (nI_inc _) (by decide) rfl (fun ls hl => ?_)
            refine lv_goto (tgt := 2) hx hb dX0_cellAside_45 (by decide) ?_
            exact ih1 (w + 1) (by omega) (by rw [← hno, show 4 - w = (4 - (w + 1)) + 1 by omega, fsW_s, show 3 - (4 - (w + 1)) = w by omega, show asdf M f w = none from by unfold asdf; rw [hnb]; exact if_neg (fun q => by rw [← hD c0 hc0, c_4t] at q; cases q.1)]) ls (by omega) (lv_sub hl [0, 2, 3] rfl)
          · refine lv_aload_n hx hb dX0_cellAside_24 rfl (lv_at hl 2 rfl) ?_
            refine lv_iload_n hx hb dX0_cellAside_25 rfl (lv_at hl 0 rfl) ?_
            refine cl_p (run_V hC (cJ_X0_robotAt l G d0 mi Rf ja M E (nI c0) (by assumption)) (As := [.int (nI c0)]) (rest := []) rfl rfl ml_X0_128 im_X0_robotAt se_X0_robotAt ini_X0 cd_X0_robotAt ⟨rfl, na_X0_robotAt⟩ jB_blind (hW.recv hK (show jV M 0 0 from rfl) rfl) (jB_at hX hRf hW hS) hl.1 (Nat.le_of_ble_eq_true rfl) ⟨Nat.le_of_ble_eq_true rfl, Nat.le_of_ble_eq_true rfl⟩ ⟨Nat.le_refl _, Nat.le_refl _⟩ rfl dX0_cellAside_26) ?_
            rcases ho5 : rbA M (nI c0) with _ | k5
            · refine top_v (y := .null) rfl ?_
              refine lv_ifnonnullN hx hb dX0_cellAside_29 ?_
              refine lv_aload_n hx hb dX0_cellAside_32 rfl (lv_at hl 2 rfl) ?_
              refine lv_iload_n hx hb dX0_cellAside_33 rfl (lv_at hl 0 rfl) ?_
              refine cl_p (run_V hC (cJ_X0_isAskedFor l G d0 mi Rf ja M E (nI c0)) (As := [.int (nI c0)]) (rest := []) rfl rfl ml_X0_150 im_X0_isAskedFor se_X0_isAskedFor ini_X0 cd_X0_isAskedFor ⟨rfl, na_X0_isAskedFor⟩ jB_blind (hW.recv hK (show jV M 0 0 from rfl) rfl) (jB_at hX hRf hW hS) hl.1 (Nat.le_of_ble_eq_true rfl) ⟨Nat.le_of_ble_eq_true rfl, Nat.le_of_ble_eq_true rfl⟩ ⟨Nat.le_refl _, Nat.le_refl _⟩ rfl dX0_cellAside_34) ?_
              refine lb_ne (tgt := 42) (b := (askdB M (nI c0))) hx hb dX0_cellAside_37 (by decide) (fun c_6t => ?_) (fun c_6f => ?_)
              · refine lv_iinc (v := nI (w + 1)) (lv' := [(2, .int (nI (w + 1))), (3, .int (nI c0)), (0, .ref (ja 0 0)), (1, .int (nI f))]) hx hb dX0_cellAside_42 hl (k := 1) rfl (nI_inc _) (by decide) rfl (fun ls hl => ?_)
                refine lv_goto (tgt := 2) hx hb dX0_cellAside_45 (by decide) ?_
                exact ih1 (w + 1) (by omega) (by rw [← hno, show 4 - w = (4 - (w + 1)) + 1 by omega, fsW_s, show 3 - (4 - (w + 1)) = w by omega, show asdf M f w = none from by unfold asdf; rw [hnb]; exact if_neg (fun q => by rw [c_6t] at q; cases q.2.2)]) ls (by omega) (lv_sub hl [0, 2, 3] rfl)
              · refine lv_iload_n hx hb dX0_cellAside_40 rfl (lv_at hl 0 rfl) ?_
                subst hQ
                exact rt_i hx hb hr hlk (by rw [← hno, show 4 - w = (4 - (w + 1)) + 1 by omega, fsW_s, show 3 - (4 - (w + 1)) = w by omega, show asdf M f w = some c0 from by unfold asdf; rw [hnb]; exact if_pos ⟨by rw [← hD c0 hc0]; exact c_4f, ho5, c_6f⟩]; rfl) dX0_cellAside_41
            · refine top_v (y := .ref (ja 5 k5)) rfl ?_
              have hlt_k5 := (lastE_lt ho5).1
              refine lv_ifnonnull (tgt := 42) hx hb dX0_cellAside_29 (by decide) ?_
              refine lv_iinc (v := nI (w + 1)) (lv' := [(2, .int (nI (w + 1))), (3, .int (nI c0)), (0, .ref (ja 0 0)), (1, .int (nI f))]) hx hb dX0_cellAside_42 hl (k := 1) rfl (nI_inc _) (by decide) rfl (fun ls hl => ?_)
              refine lv_goto (tgt := 2) hx hb dX0_cellAside_45 (by decide) ?_
              exact ih1 (w + 1) (by omega) (by rw [← hno, show 4 - w = (4 - (w + 1)) + 1 by omega, fsW_s, show 3 - (4 - (w + 1)) = w by omega, show asdf M f w = none from by unfold asdf; rw [hnb]; exact if_neg (fun q => by rw [ho5] at q; cases q.2.1)]) ls (by omega) (lv_sub hl [0, 2, 3] rfl)
  exact loop1 ((4 - 0) + 1) 0 (Nat.zero_le _) rfl ls (by omega) (lv_sub hl [0, 1, 2] rfl)
set_option maxHeartbeats 4000000 in
set_option maxRecDepth 100000 in
theorem cJ_X0_arrive (l : Launch) (G : gG) (d0 mi : Nat) (Rf : Nat → Prop) (ja : Nat → Nat → Nat) (M : MS) (E : ES) (B : Nat) (hI : INV B M) : Met l yX0_arrive (wB yX0_arrive cX0_arrive 3 none) (rmL 3 0 0) (va_Pc [.ref (ja 0 0)] (jB G d0 mi Rf ja M E)) (va_Qv (S := Unit) (fun _ => True) (fun _ z9 => WJ G d0 Rf ja (itR arrF (nR M) M) (E) z9.heap) (jA Rf)) 0 0 (jA Rf) := by
  refine st_N (own := RX0) (by decide +kernel) rfl (Nat.le_of_ble_eq_true rfl) ?_
  intro p e s m below meth c ls args Q hQ hC hr hlk hnm hl hP
  obtain ⟨hW, hX, hRf⟩ := hP
  have hK := hX.1
  have hx := hC.1
  have hb := hC.2.1
  have hl : lv_has ls 3 [(0, .ref (ja 0 0))] := hl
  obtain ⟨H, locs, hHe, hLe⟩ : ∃ (H : Heap) (locs : List Loc), H = s.heap ∧ locs = [] := ⟨_, _, rfl, rfl⟩
  rw [← hHe] at hW
  have hS : va_S (jA Rf) s.heap H locs := by rw [hHe, hLe]; exact va_S.rf
  suffices hgo : W p l e (rmL 3 0 0) s m args below meth c H locs 0 0 Q (F0 m 0 ls []) by
    rw [hHe, hLe] at hgo
    exact hgo
  clear hHe hLe
  refine lv_iconst (v := 0) hx hb dX0_arrive_0 (by decide) ?_
  refine lv_istore_n (lv' := [(1, .int 0), (0, .ref (ja 0 0))]) hx hb dX0_arrive_1 rfl hl (by decide) rfl (fun ls hl => ?_)
  have loop1 : ∀ (n_ : Nat) (i : Nat) (Mi : MS) (H : Heap) (locs : List Loc) (hi : i ≤ nR M) (hMi : Mi = itR arrF i M) (hW : WJ G d0 Rf ja Mi E H) (hS : va_S (jA Rf) s.heap H locs) (ls : Array Slot), nR M - i < n_ → lv_has ls 3 [(1, .int (nI i)), (0, .ref (ja 0 0))] → W p l e (rmL 3 0 0) s m args below meth c H locs 0 0 Q (F0 m 2 ls []) := by
    intro n_
    induction n_ with
    | zero => intro i Mi H locs hi hMi hW hS ls hm hl; omega
    | succ n_ ih1 =>
      intro i Mi H locs hi hMi hW hS ls hm hl
      have h6 := hI.c.R6
      obtain ⟨hIi, hki⟩ := itR_INV hI (f := arrF) (N := nR M) (fun M1 q a b c => INV_arrK a (by rw [b.eR]; exact c)) i hi
      have hdi := itR_DK hI (f := arrF) (N := nR M) (fun M1 q a b c => INV_arrK a (by rw [b.eR]; exact c)) (fun M1 q a b c => DK_arr (by obtain ⟨j, hj, e⟩ := (a.r.1 q (by rw [b.eR]; exact c)).1; rw [e]; exact nI_m1 (by omega))) i hi
      rw [← hMi] at hIi hki hdi
      have hni : nR Mi = nR M := hki.eR
      refine lv_iload_n hx hb dX0_arrive_2 rfl (lv_at hl 0 rfl) ?_
      refine lv_aload_n hx hb dX0_arrive_3 rfl (lv_at hl 1 rfl) ?_
      refine r1_get hC hK.1 (hW.ob (show jV Mi 0 0 from rfl)) lay_X0 rfl 1 (by decide) fl_X0_21 (fun x hx => hx) (v := .ref (ja 10 4)) rfl dX0_arrive_4 ?_
      refine jw_size hC hK hW.1 (i := 4) (Or.inl (by decide)) ml_X0_44 hl.1 (Nat.le_of_ble_eq_true rfl) ⟨Nat.le_of_ble_eq_true rfl, Nat.le_of_ble_eq_true rfl, Nat.le_refl _, Nat.le_refl _⟩ dX0_arrive_7 ?_
      refine top_i (y := nI (nR Mi)) rfl ?_
      refine ln_ge (tgt := 46) (a := i) (b := (nR Mi)) hx hb dX0_arrive_10 (by decide) rfl rfl (by omega) (by omega) (fun c_2t => ?_) (fun c_2f => ?_)
      · subst hQ
        rw [show Mi = itR arrF (nR M) M from (by rw [hMi, show i = nR M by omega])] at hW
        exact rt_qv () hx hb hr hlk hS (trivial) (fun t ht _ => by show WJ G d0 Rf ja _ _ t.heap; rw [ht]; exact hW) (by show 0 ≤ 0; omega) (by show 0 ≤ 0; omega) dX0_arrive_46
      · refine lv_aload_n hx hb dX0_arrive_13 rfl (lv_at hl 1 rfl) ?_
        refine r1_get hC hK.1 (hW.ob (show jV Mi 0 0 from rfl)) lay_X0 rfl 1 (by decide) fl_X0_21 (fun x hx => hx) (v := .ref (ja 10 4)) rfl dX0_arrive_14 ?_
        refine lv_iload_n hx hb dX0_arrive_17 rfl (lv_at hl 0 rfl) ?_
        refine jw_get hC hK hW.1 (i := 4) (j := i) (Or.inl (by decide)) (show i < jn Mi E 4 from (by show i < nR Mi; omega)) ml_X0_48 hl.1 (Nat.le_of_ble_eq_true rfl) ⟨Nat.le_of_ble_eq_true rfl, Nat.le_of_ble_eq_true rfl, Nat.le_refl _, Nat.le_refl _⟩ dX0_arrive_18 ?_
        refine jw_cast hC hK (hW.ob (show jV Mi 5 i from (by show i < nR Mi; omega))) rfl cl_X0_52 dX0_arrive_21 ?_
        refine lv_astore_n (lv' := [(2, .ref (ja 5 i)), (1, .int (nI i)), (0, .ref (ja 0 0))]) hx hb dX0_arrive_24 rfl hl (by decide) rfl (fun ls hl => ?_)
        refine lv_aload_n hx hb dX0_arrive_25 rfl (lv_at hl 0 rfl) ?_
        refine r1_get hC hK.1 (hW.ob (show jV Mi 5 i from (by show i < nR Mi; omega))) lay_X5 rfl 2 (by decide) fl_X0_54 (fun x hx => hx) (v := .int (Mi 18 i)) rfl dX0_arrive_26 ?_
        refine lv_aload_n hx hb dX0_arrive_29 rfl (lv_at hl 0 rfl) ?_
        refine cl_p (run_V hC (cJ_X5_goal l G d0 mi Rf ja Mi E i (show i < nR Mi from (by show i < nR Mi; omega))) (As := []) (rest := [.int (Mi 18 i)]) rfl rfl ml_X0_94 im_X5_goal se_X5_goal ini_X5 cd_X5_goal ⟨rfl, na_X5_goal⟩ jB_blind (hW.recv hK (show jV Mi 5 i from (by show i < nR Mi; omega)) rfl) (jB_at hX hRf hW hS) hl.1 (Nat.le_of_ble_eq_true rfl) ⟨Nat.le_of_ble_eq_true rfl, Nat.le_of_ble_eq_true rfl⟩ ⟨Nat.le_refl _, Nat.le_refl _⟩ rfl dX0_arrive_30) ?_
        refine lv_icmp_ne (tgt := 40) hx hb dX0_arrive_33 (by decide) (fun c_3t => ?_) (fun c_3f => ?_)
        · refine lv_iinc (v := nI (i + 1)) (lv' := [(1, .int (nI (i + 1))), (2, .ref (ja 5 i)), (0, .ref (ja 0 0))]) hx hb dX0_arrive_40 hl (k := 1) rfl (nI_inc _) (by decide) rfl (fun ls hl => ?_)
          refine lv_goto (tgt := 2) hx hb dX0_arrive_43 (by decide) ?_
          have hW : WJ G d0 Rf ja (arrF Mi i) E H := by rw [← arr_no hIi (by omega) c_3t]; exact hW
          exact ih1 (i + 1) (arrF Mi i) H locs (by omega) (by rw [itR_s, ← hMi]) hW hS ls (by omega) (lv_sub hl [0, 2] rfl)
        · refine lv_aload_n hx hb dX0_arrive_36 rfl (lv_at hl 0 rfl) ?_
          refine jcl_v (run_V hC (cJ_X5_reachGoal l G d0 mi Rf ja Mi E i (show i < nR Mi from (by show i < nR Mi; omega))) (As := []) (rest := []) rfl rfl ml_X0_177 im_X5_reachGoal se_X5_reachGoal ini_X5 cd_X5_reachGoal ⟨rfl, na_X5_reachGoal⟩ jB_blind (hW.recv hK (show jV Mi 5 i from (by show i < nR Mi; omega)) rfl) (jB_at hX hRf hW hS) hl.1 (Nat.le_of_ble_eq_true rfl) ⟨Nat.le_of_ble_eq_true rfl, Nat.le_of_ble_eq_true rfl⟩ ⟨Nat.le_refl _, Nat.le_refl _⟩ rfl dX0_arrive_37) hS (fun H locs hW hS => ?_)
          refine lv_iinc (v := nI (i + 1)) (lv' := [(1, .int (nI (i + 1))), (2, .ref (ja 5 i)), (0, .ref (ja 0 0))]) hx hb dX0_arrive_40 hl (k := 1) rfl (nI_inc _) (by decide) rfl (fun ls hl => ?_)
          refine lv_goto (tgt := 2) hx hb dX0_arrive_43 (by decide) ?_
          rw [arr_rg hIi (by omega) c_3f.symm] at hW
          exact ih1 (i + 1) (arrF Mi i) H locs (by omega) (by rw [itR_s, ← hMi]) hW hS ls (by omega) (lv_sub hl [0, 2] rfl)
  exact loop1 ((nR M - 0) + 1) 0 M H locs (Nat.zero_le _) rfl hW hS ls (by omega) (lv_sub hl [0, 1] rfl)
set_option maxHeartbeats 4000000 in
set_option maxRecDepth 100000 in
theorem cJ_X0_stepAside (l : Launch) (G : gG) (d0 mi : Nat) (Rf : Nat → Prop) (ja : Nat → Nat → Nat) (M : MS) (E : ES) (B : Nat) (hI : INV B M) (hD : hD_ M E) : Met l yX0_stepAside (wB yX0_stepAside cX0_stepAside 4 none) (rmL 5 0 0) (va_Pc [.ref (ja 0 0)] (jB G d0 mi Rf ja M E)) (va_Qv (S := Unit) (fun _ => True) (fun _ z9 => WJ G d0 Rf ja (itR asS (nR M) M) (E) z9.heap) (jA Rf)) 0 0 (jA Rf) := by
  refine st_N (own := RX0) (by decide +kernel) rfl (Nat.le_of_ble_eq_true rfl) ?_
  intro p e s m below meth c ls args Q hQ hC hr hlk hnm hl hP
  obtain ⟨hW, hX, hRf⟩ := hP
  have hK := hX.1
  have hx := hC.1
  have hb := hC.2.1
  have hl : lv_has ls 4 [(0, .ref (ja 0 0))] := hl
  obtain ⟨H, locs, hHe, hLe⟩ : ∃ (H : Heap) (locs : List Loc), H = s.heap ∧ locs = [] := ⟨_, _, rfl, rfl⟩
  rw [← hHe] at hW
  have hS : va_S (jA Rf) s.heap H locs := by rw [hHe, hLe]; exact va_S.rf
  suffices hgo : W p l e (rmL 5 0 0) s m args below meth c H locs 0 0 Q (F0 m 0 ls []) by
    rw [hHe, hLe] at hgo
    exact hgo
  clear hHe hLe
  refine lv_iconst (v := 0) hx hb dX0_stepAside_0 (by decide) ?_
  refine lv_istore_n (lv' := [(1, .int 0), (0, .ref (ja 0 0))]) hx hb dX0_stepAside_1 rfl hl (by decide) rfl (fun ls hl => ?_)
  have loop1 : ∀ (n_ : Nat) (i : Nat) (Mi : MS) (H : Heap) (locs : List Loc) (hi : i ≤ nR M) (hMi : Mi = itR asS i M) (hW : WJ G d0 Rf ja Mi E H) (hS : va_S (jA Rf) s.heap H locs) (ls : Array Slot), nR M - i < n_ → lv_has ls 4 [(1, .int (nI i)), (0, .ref (ja 0 0))] → W p l e (rmL 5 0 0) s m args below meth c H locs 0 0 Q (F0 m 2 ls []) := by
    intro n_
    induction n_ with
    | zero => intro i Mi H locs hi hMi hW hS ls hm hl; omega
    | succ n_ ih1 =>
      intro i Mi H locs hi hMi hW hS ls hm hl
      have h6 := hI.c.R6
      obtain ⟨hIi, hki⟩ := itR_INV hI (f := asS) (N := nR M) (fun M1 q a b c => INV_asS a (by rw [b.eR]; exact c)) i hi
      have hdi := itR_DK hI (f := asS) (N := nR M) (fun M1 q a b c => INV_asS a (by rw [b.eR]; exact c)) (fun M1 q a b c => DK_asS a) i hi
      rw [← hMi] at hIi hki hdi
      have hni : nR Mi = nR M := hki.eR
      have hDi : hD_ Mi E := hdi.hD hI.u18 hIi.u18 rfl hD
      have hu18 := hIi.u18
      refine lv_iload_n hx hb dX0_stepAside_2 rfl (lv_at hl 0 rfl) ?_
      refine lv_aload_n hx hb dX0_stepAside_3 rfl (lv_at hl 1 rfl) ?_
      refine r1_get hC hK.1 (hW.ob (show jV Mi 0 0 from rfl)) lay_X0 rfl 1 (by decide) fl_X0_21 (fun x hx => hx) (v := .ref (ja 10 4)) rfl dX0_stepAside_4 ?_
      refine jw_size hC hK hW.1 (i := 4) (Or.inl (by decide)) ml_X0_44 hl.1 (Nat.le_of_ble_eq_true rfl) ⟨Nat.le_of_ble_eq_true rfl, Nat.le_of_ble_eq_true rfl, Nat.le_refl _, Nat.le_refl _⟩ dX0_stepAside_7 ?_
      refine top_i (y := nI (nR Mi)) rfl ?_
      refine ln_ge (tgt := 69) (a := i) (b := (nR Mi)) hx hb dX0_stepAside_10 (by decide) rfl rfl (by omega) (by omega) (fun c_2t => ?_) (fun c_2f => ?_)
      · subst hQ
        rw [show Mi = itR asS (nR M) M from (by rw [hMi, show i = nR M by omega])] at hW
        exact rt_qv () hx hb hr hlk hS (trivial) (fun t ht _ => by show WJ G d0 Rf ja _ _ t.heap; rw [ht]; exact hW) (by show 0 ≤ 0; omega) (by show 0 ≤ 0; omega) dX0_stepAside_69
      · refine lv_aload_n hx hb dX0_stepAside_13 rfl (lv_at hl 1 rfl) ?_
        refine r1_get hC hK.1 (hW.ob (show jV Mi 0 0 from rfl)) lay_X0 rfl 1 (by decide) fl_X0_21 (fun x hx => hx) (v := .ref (ja 10 4)) rfl dX0_stepAside_14 ?_
        refine lv_iload_n hx hb dX0_stepAside_17 rfl (lv_at hl 0 rfl) ?_
        refine jw_get hC hK hW.1 (i := 4) (j := i) (Or.inl (by decide)) (show i < jn Mi E 4 from (by show i < nR Mi; omega)) ml_X0_48 hl.1 (Nat.le_of_ble_eq_true rfl) ⟨Nat.le_of_ble_eq_true rfl, Nat.le_of_ble_eq_true rfl, Nat.le_refl _, Nat.le_refl _⟩ dX0_stepAside_18 ?_
        refine jw_cast hC hK (hW.ob (show jV Mi 5 i from (by show i < nR Mi; omega))) rfl cl_X0_52 dX0_stepAside_21 ?_
        obtain ⟨c0, hc0, ec⟩ := (hIi.r.1 i (by omega)).1
        refine lv_astore_n (lv' := [(2, .ref (ja 5 i)), (1, .int (nI i)), (0, .ref (ja 0 0))]) hx hb dX0_stepAside_24 rfl hl (by decide) rfl (fun ls hl => ?_)
        refine lv_aload_n hx hb dX0_stepAside_25 rfl (lv_at hl 0 rfl) ?_
        refine r1_get hC hK.1 (hW.ob (show jV Mi 5 i from (by show i < nR Mi; omega))) lay_X5 rfl 3 (by decide) fl_X0_65 (fun x hx => hx) (v := .int (Mi 20 i)) rfl dX0_stepAside_26 ?_
        refine lv_if_ne (tgt := 63) hx hb dX0_stepAside_29 (by decide) (fun c_3t => ?_) (fun c_3f => ?_)
        · refine lv_iinc (v := nI (i + 1)) (lv' := [(1, .int (nI (i + 1))), (2, .ref (ja 5 i)), (0, .ref (ja 0 0))]) hx hb dX0_stepAside_63 hl (k := 1) rfl (nI_inc _) (by decide) rfl (fun ls hl => ?_)
          refine lv_goto (tgt := 2) hx hb dX0_stepAside_66 (by decide) ?_
          have hW : WJ G d0 Rf ja (asS Mi i) E H := by rw [show asS Mi i = Mi from by unfold asS; exact if_neg (fun q => c_3t q.1)]; exact hW
          exact ih1 (i + 1) (asS Mi i) H locs (by omega) (by rw [itR_s, ← hMi]) hW hS ls (by omega) (lv_sub hl [0, 2] rfl)
        · have hz0 := c_3f
          refine lv_aload_n hx hb dX0_stepAside_32 rfl (lv_at hl 2 rfl) ?_
          refine lv_aload_n hx hb dX0_stepAside_33 rfl (lv_at hl 0 rfl) ?_
          refine r1_get hC hK.1 (hW.ob (show jV Mi 5 i from (by show i < nR Mi; omega))) lay_X5 rfl 2 (by decide) fl_X0_54 (fun x hx => hx) (v := .int (nI c0)) (congrArg (fun z => some (Value.int z)) ec) dX0_stepAside_34 ?_
          refine cl_p (run_V hC (cJ_X0_isAskedFor l G d0 mi Rf ja Mi E (nI c0)) (As := [.int (nI c0)]) (rest := []) rfl rfl ml_X0_150 im_X0_isAskedFor se_X0_isAskedFor ini_X0 cd_X0_isAskedFor ⟨rfl, na_X0_isAskedFor⟩ jB_blind (hW.recv hK (show jV Mi 0 0 from rfl) rfl) (jB_at hX hRf hW hS) hl.1 (Nat.le_of_ble_eq_true rfl) ⟨Nat.le_of_ble_eq_true rfl, Nat.le_of_ble_eq_true rfl⟩ ⟨Nat.le_refl _, Nat.le_refl _⟩ rfl dX0_stepAside_37) ?_
          refine lb_eq (tgt := 63) (b := (askdB Mi (nI c0))) hx hb dX0_stepAside_40 (by decide) (fun c_4t => ?_) (fun c_4f => ?_)
          · refine lv_iinc (v := nI (i + 1)) (lv' := [(1, .int (nI (i + 1))), (2, .ref (ja 5 i)), (0, .ref (ja 0 0))]) hx hb dX0_stepAside_63 hl (k := 1) rfl (nI_inc _) (by decide) rfl (fun ls hl => ?_)
            refine lv_goto (tgt := 2) hx hb dX0_stepAside_66 (by decide) ?_
            have hW : WJ G d0 Rf ja (asS Mi i) E H := by rw [show asS Mi i = Mi from by unfold asS; exact if_neg (fun q => by rw [ec, c_4t] at q; cases q.2)]; exact hW
            exact ih1 (i + 1) (asS Mi i) H locs (by omega) (by rw [itR_s, ← hMi]) hW hS ls (by omega) (lv_sub hl [0, 2] rfl)
          · refine lv_aload_n hx hb dX0_stepAside_43 rfl (lv_at hl 2 rfl) ?_
            refine lv_aload_n hx hb dX0_stepAside_44 rfl (lv_at hl 0 rfl) ?_
            refine r1_get hC hK.1 (hW.ob (show jV Mi 5 i from (by show i < nR Mi; omega))) lay_X5 rfl 2 (by decide) fl_X0_54 (fun x hx => hx) (v := .int (nI c0)) (congrArg (fun z => some (Value.int z)) ec) dX0_stepAside_45 ?_
            refine cl_p (run_V hC (cJ_X0_cellAside l G d0 mi Rf ja Mi E c0 (by omega) hu18 hDi) (As := [.int (nI c0)]) (rest := []) rfl rfl ml_X0_154 im_X0_cellAside se_X0_cellAside ini_X0 cd_X0_cellAside ⟨rfl, na_X0_cellAside⟩ jB_blind (hW.recv hK (show jV Mi 0 0 from rfl) rfl) (jB_at hX hRf hW hS) hl.1 (Nat.le_of_ble_eq_true rfl) ⟨Nat.le_of_ble_eq_true rfl, Nat.le_of_ble_eq_true rfl⟩ ⟨Nat.le_refl _, Nat.le_refl _⟩ rfl dX0_stepAside_48) ?_
            rcases hfs : fsW (asdf Mi c0) 4 with _ | x0
            · refine top_i (y := -1) rfl ?_
              refine lv_istore_n (lv' := [(3, .int (-1)), (2, .ref (ja 5 i)), (1, .int (nI i)), (0, .ref (ja 0 0))]) hx hb dX0_stepAside_51 rfl hl (by decide) rfl (fun ls hl => ?_)
              refine lv_iload_n hx hb dX0_stepAside_52 rfl (lv_at hl 0 rfl) ?_
              refine lv_iconst (v := (-1)) hx hb dX0_stepAside_53 (by decide) ?_
              refine lv_icmp_eq (tgt := 63) hx hb dX0_stepAside_54 (by decide) (fun _ => ?_) (fun c => absurd c (by decide))
              refine lv_iinc (v := nI (i + 1)) (lv' := [(1, .int (nI (i + 1))), (3, .int (-1)), (2, .ref (ja 5 i)), (0, .ref (ja 0 0))]) hx hb dX0_stepAside_63 hl (k := 2) rfl (nI_inc _) (by decide) rfl (fun ls hl => ?_)
              refine lv_goto (tgt := 2) hx hb dX0_stepAside_66 (by decide) ?_
              have hW : WJ G d0 Rf ja (asS Mi i) E H := by rw [show asS Mi i = Mi from by unfold asS asdF; rw [if_pos ⟨hz0, by rw [ec]; exact c_4f⟩, ec, ix_nI (by omega), hfs]]; exact hW
              exact ih1 (i + 1) (asS Mi i) H locs (by omega) (by rw [itR_s, ← hMi]) hW hS ls (by omega) (lv_sub hl [0, 3] rfl)
            · have hx0 : x0 < 64 := by obtain ⟨w, hw, e9⟩ := fsW_in hfs; exact (asdf_in hc0 hw e9).1
              refine top_i (y := nI x0) rfl ?_
              refine lv_istore_n (lv' := [(3, .int (nI x0)), (2, .ref (ja 5 i)), (1, .int (nI i)), (0, .ref (ja 0 0))]) hx hb dX0_stepAside_51 rfl hl (by decide) rfl (fun ls hl => ?_)
              refine lv_iload_n hx hb dX0_stepAside_52 rfl (lv_at hl 0 rfl) ?_
              refine lv_iconst (v := (-1)) hx hb dX0_stepAside_53 (by decide) ?_
              refine lv_icmp_eq (tgt := 63) hx hb dX0_stepAside_54 (by decide) (fun c => absurd c (nI_m1 (by omega))) (fun _ => ?_)
              refine lv_aload_n hx hb dX0_stepAside_57 rfl (lv_at hl 3 rfl) ?_
              refine lv_aload_n hx hb dX0_stepAside_58 rfl (lv_at hl 1 rfl) ?_
              refine lv_iload_n hx hb dX0_stepAside_59 rfl (lv_at hl 0 rfl) ?_
              refine jcl_v (run_V hC (cJ_X0_moveRobot l G d0 mi Rf ja Mi E i (nI x0) (show i < nR Mi from (by show i < nR Mi; omega))) (As := [.ref (ja 5 i), .int (nI x0)]) (rest := []) rfl rfl ml_X0_135 im_X0_moveRobot se_X0_moveRobot ini_X0 cd_X0_moveRobot ⟨rfl, na_X0_moveRobot⟩ jB_blind (hW.recv hK (show jV Mi 0 0 from rfl) rfl) (jB_at hX hRf hW hS) hl.1 (Nat.le_of_ble_eq_true rfl) ⟨Nat.le_of_ble_eq_true rfl, Nat.le_of_ble_eq_true rfl⟩ ⟨Nat.le_refl _, Nat.le_refl _⟩ rfl dX0_stepAside_60) hS (fun H locs hW hS => ?_)
              refine lv_iinc (v := nI (i + 1)) (lv' := [(1, .int (nI (i + 1))), (3, .int (nI x0)), (2, .ref (ja 5 i)), (0, .ref (ja 0 0))]) hx hb dX0_stepAside_63 hl (k := 2) rfl (nI_inc _) (by decide) rfl (fun ls hl => ?_)
              refine lv_goto (tgt := 2) hx hb dX0_stepAside_66 (by decide) ?_
              have hW : WJ G d0 Rf ja (asS Mi i) E H := by rw [show asS Mi i = (mvF Mi i (nI x0)) from by unfold asS asdF; rw [if_pos ⟨hz0, by rw [ec]; exact c_4f⟩, ec, ix_nI (by omega), hfs]]; exact hW
              exact ih1 (i + 1) (asS Mi i) H locs (by omega) (by rw [itR_s, ← hMi]) hW hS ls (by omega) (lv_sub hl [0, 3] rfl)
  exact loop1 ((nR M - 0) + 1) 0 M H locs (Nat.zero_le _) rfl hW hS ls (by omega) (lv_sub hl [0, 1] rfl)
set_option maxHeartbeats 4000000 in
set_option maxRecDepth 100000 in
theorem cJ_X0_canYieldTo (l : Launch) (G : gG) (d0 mi : Nat) (Rf : Nat → Prop) (ja : Nat → Nat → Nat) (M : MS) (E : ES) (r : Nat) (o : Nat) (B : Nat) (h_r : r < nR M) (h_o : o < nR M) (hI : INV B M) (hD : hD_ M E) (hwy : M 20 r = 1 ∨ M 20 r = 2 ∨ M 20 r = 4) : Met l yX0_canYieldTo (wB yX0_canYieldTo cX0_canYieldTo 3 (some .boolean)) (rmL 3 0 0) (va_Pc [.ref (ja 0 0), .ref (ja 5 r), .ref (ja 5 o)] (jB G d0 mi Rf ja M E)) (k2_QcV (.int (bI (yldB M r o)))) 0 0 fN := by
  refine st_N (own := RX0) (by decide +kernel) rfl (Nat.le_of_ble_eq_true rfl) ?_
  intro p e s m below meth c ls args Q hQ hC hr hlk hnm hl hP
  obtain ⟨hW, hX, hRf⟩ := hP
  have hK := hX.1
  have hx := hC.1
  have hb := hC.2.1
  have hl : lv_has ls 3 [(0, .ref (ja 0 0)), (1, .ref (ja 5 r)), (2, .ref (ja 5 o))] := hl
  have hS : va_S (jA Rf) s.heap s.heap [] := va_S.rf
  obtain ⟨c0, hc0, ec⟩ := (hI.r.1 r h_r).1
  obtain ⟨g, hg, eg⟩ := goalV_isC hI h_r hwy
  have hgg : gol M r = nI g := (gol_way hI h_r hwy).trans eg
  have hyl : yldB M r o = (nrst (dS (frX M (M 18 o)) g) c0).isSome := by unfold yldB; rw [eg, ec, ix_nI (by omega), ix_nI (by omega)]
  refine lv_aload_n hx hb dX0_canYieldTo_0 rfl (lv_at hl 0 rfl) ?_
  refine r1_get hC hK.1 (hW.ob (show jV M 0 0 from rfl)) lay_X0 rfl 0 (by decide) fl_X0_12 (fun x hx => hx) (v := .ref (ja 1 0)) rfl dX0_canYieldTo_1 ?_
  refine lv_aload_n hx hb dX0_canYieldTo_4 rfl (lv_at hl 1 rfl) ?_
  refine r1_get hC hK.1 (hW.ob (show jV M 5 r from h_r)) lay_X5 rfl 2 (by decide) fl_X0_54 (fun x hx => hx) (v := .int (nI c0)) (congrArg (fun z => some (Value.int z)) ec) dX0_canYieldTo_5 ?_
  refine lv_aload_n hx hb dX0_canYieldTo_8 rfl (lv_at hl 1 rfl) ?_
  refine cl_pi (x := nI g) (run_V hC (cJ_X5_goal l G d0 mi Rf ja M E r (show r < nR M from h_r)) (As := []) (rest := [.int (nI c0), .ref (ja 1 0)]) rfl rfl ml_X0_94 im_X5_goal se_X5_goal ini_X5 cd_X5_goal ⟨rfl, na_X5_goal⟩ jB_blind (hW.recv hK (show jV M 5 r from h_r) rfl) (jB_at hX hRf hW hS) hl.1 (Nat.le_of_ble_eq_true rfl) ⟨Nat.le_of_ble_eq_true rfl, Nat.le_of_ble_eq_true rfl⟩ ⟨Nat.le_refl _, Nat.le_refl _⟩ rfl dX0_canYieldTo_9) (hgg) ?_
  refine lv_aload_n hx hb dX0_canYieldTo_12 rfl (lv_at hl 2 rfl) ?_
  refine r1_get hC hK.1 (hW.ob (show jV M 5 o from h_o)) lay_X5 rfl 2 (by decide) fl_X0_54 (fun x hx => hx) (v := .int (M 18 o)) rfl dX0_canYieldTo_13 ?_
  refine cl_pi (x := nearV M (M 18 o) g c0) (run_V hC (cJ_X1_nextCell l G d0 mi Rf ja M E c0 g (M 18 o) (by omega) (by omega)) (As := [.int (nI c0), .int (nI g), .int (M 18 o)]) (rest := []) rfl rfl ml_X0_104 im_X1_nextCell se_X1_nextCell ini_X1 cd_X1_nextCell ⟨rfl, na_X1_nextCell⟩ jB_blind (hW.recv hK (show jV M 1 0 from rfl) rfl) (jB_at hX hRf hW hS) hl.1 (Nat.le_of_ble_eq_true rfl) ⟨Nat.le_of_ble_eq_true rfl, Nat.le_of_ble_eq_true rfl⟩ ⟨Nat.le_refl _, Nat.le_refl _⟩ rfl dX0_canYieldTo_16) (nxV_X hD (M 18 o) hc0 hg) ?_
  refine lv_iconst (v := (-1)) hx hb dX0_canYieldTo_19 (by decide) ?_
  refine lv_icmp_eq (tgt := 27) hx hb dX0_canYieldTo_20 (by decide) (fun c_1t => ?_) (fun c_1f => ?_)
  · refine lv_iconst (v := 0) hx hb dX0_canYieldTo_27 (by decide) ?_
    subst hQ
    exact rt_z hx hb hr hlk (bI_0 (by rw [hyl]; cases h9 : nrst (dS (frX M (M 18 o)) g) c0 with | none => rfl | some p9 => exact absurd c_1t (by unfold nearV; rw [h9]; have k_ := bst_nb hc0 (Nat.le_refl 4) h9; show ¬ nI p9.1 = -1; exact nI_m1 (by have := k_.1; omega)))) dX0_canYieldTo_28
  · refine lv_iconst (v := 1) hx hb dX0_canYieldTo_23 (by decide) ?_
    refine lv_goto (tgt := 28) hx hb dX0_canYieldTo_24 (by decide) ?_
    subst hQ
    exact rt_z hx hb hr hlk (bI_1 (by rw [hyl]; cases h9 : nrst (dS (frX M (M 18 o)) g) c0 with | some _ => rfl | none => exact absurd (by unfold nearV; rw [h9]; rfl) c_1f)) dX0_canYieldTo_28
set_option maxHeartbeats 4000000 in
set_option maxRecDepth 100000 in
theorem cJ_X0_breakRing (l : Launch) (G : gG) (d0 mi : Nat) (Rf : Nat → Prop) (ja : Nat → Nat → Nat) (M : MS) (E : ES) (r : Nat) (o : Nat) (B : Nat) (h_r : r < nR M) (h_o : o < nR M) (hI : INV B M) (hD : hD_ M E) (hwr : M 20 r = 1 ∨ M 20 r = 2 ∨ M 20 r = 4) (hwo : M 20 o = 1 ∨ M 20 o = 2 ∨ M 20 o = 4) (hne : ¬ r = o) : Met l yX0_breakRing (wB yX0_breakRing cX0_breakRing 5 none) (rmL 4 0 0) (va_Pc [.ref (ja 0 0), .ref (ja 5 r), .ref (ja 5 o)] (jB G d0 mi Rf ja M E)) (va_Qv (S := Unit) (fun _ => True) (fun _ z9 => WJ G d0 Rf ja (bkM M (if abvB M r o = true then o else r) (if abvB M r o = true then r else o)) (E) z9.heap) (jA Rf)) 0 0 (jA Rf) := by
  refine st_N (own := RX0) (by decide +kernel) rfl (Nat.le_of_ble_eq_true rfl) ?_
  intro p e s m below meth c ls args Q hQ hC hr hlk hnm hl hP
  obtain ⟨hW, hX, hRf⟩ := hP
  have hK := hX.1
  have hx := hC.1
  have hb := hC.2.1
  have hl : lv_has ls 5 [(0, .ref (ja 0 0)), (1, .ref (ja 5 r)), (2, .ref (ja 5 o))] := hl
  obtain ⟨H, locs, hHe, hLe⟩ : ∃ (H : Heap) (locs : List Loc), H = s.heap ∧ locs = [] := ⟨_, _, rfl, rfl⟩
  rw [← hHe] at hW
  have hS : va_S (jA Rf) s.heap H locs := by rw [hHe, hLe]; exact va_S.rf
  suffices hgo : W p l e (rmL 4 0 0) s m args below meth c H locs 0 0 Q (F0 m 0 ls []) by
    rw [hHe, hLe] at hgo
    exact hgo
  clear hHe hLe
  refine lv_aload_n hx hb dX0_breakRing_0 rfl (lv_at hl 1 rfl) ?_
  refine lv_aload_n hx hb dX0_breakRing_1 rfl (lv_at hl 2 rfl) ?_
  refine cl_p (run_V hC (cJ_X5_isAbove l G d0 mi Rf ja M E r o (show r < nR M from h_r) (show o < nR M from h_o) (by have := hW.cnt.R6; omega)) (As := [.ref (ja 5 o)]) (rest := []) rfl rfl ml_X0_139 im_X5_isAbove se_X5_isAbove ini_X5 cd_X5_isAbove ⟨rfl, na_X5_isAbove⟩ jB_blind (hW.recv hK (show jV M 5 r from h_r) rfl) (jB_at hX hRf hW hS) hl.1 (Nat.le_of_ble_eq_true rfl) ⟨Nat.le_of_ble_eq_true rfl, Nat.le_of_ble_eq_true rfl⟩ ⟨Nat.le_refl _, Nat.le_refl _⟩ rfl dX0_breakRing_2) ?_
  refine lb_eq (tgt := 12) (b := (abvB M r o)) hx hb dX0_breakRing_5 (by decide) (fun c_1t => ?_) (fun c_1f => ?_)
  · refine lv_aload_n hx hb dX0_breakRing_12 rfl (lv_at hl 2 rfl) ?_
    refine lv_astore_n (lv' := [(3, .ref (ja 5 o)), (0, .ref (ja 0 0)), (1, .ref (ja 5 r)), (2, .ref (ja 5 o))]) hx hb dX0_breakRing_13 rfl hl (by decide) rfl (fun ls hl => ?_)
    refine lv_aload_n hx hb dX0_breakRing_14 rfl (lv_at hl 0 rfl) ?_
    refine lv_aload_n hx hb dX0_breakRing_15 rfl (lv_at hl 2 rfl) ?_
    refine lv_acmp_ne (rx := some (ja 5 o)) (ry := some (ja 5 r)) (tgt := 23) hx hb dX0_breakRing_16 (by decide) (fun _ => ?_) (fun c => absurd ((hW.inj (show jV M 5 o from h_o) (show jV M 5 r from h_r)).mp (Option.some.inj c)) (fun q => hne q.symm))
    refine lv_aload_n hx hb dX0_breakRing_23 rfl (lv_at hl 2 rfl) ?_
    refine lv_astore (lv' := [(4, .ref (ja 5 r)), (3, .ref (ja 5 o)), (0, .ref (ja 0 0)), (1, .ref (ja 5 r)), (2, .ref (ja 5 o))]) hx hb dX0_breakRing_24 hl (by decide) rfl (fun ls hl => ?_)
    refine lv_aload_n hx hb dX0_breakRing_26 rfl (lv_at hl 2 rfl) ?_
    refine lv_aload hx hb dX0_breakRing_27 (lv_at hl 0 rfl) ?_
    refine lv_aload_n hx hb dX0_breakRing_29 rfl (lv_at hl 1 rfl) ?_
    refine cl_p (run_V hC (cJ_X0_canYieldTo l G d0 mi Rf ja M E r o B (show r < nR M from h_r) (show o < nR M from h_o) (by assumption) (by assumption) (by assumption)) (As := [.ref (ja 5 r), .ref (ja 5 o)]) (rest := []) rfl rfl ml_X0_143 im_X0_canYieldTo se_X0_canYieldTo ini_X0 cd_X0_canYieldTo ⟨rfl, na_X0_canYieldTo⟩ jB_blind (hW.recv hK (show jV M 0 0 from rfl) rfl) (jB_at hX hRf hW hS) hl.1 (Nat.le_of_ble_eq_true rfl) ⟨Nat.le_of_ble_eq_true rfl, Nat.le_of_ble_eq_true rfl⟩ ⟨Nat.le_refl _, Nat.le_refl _⟩ rfl dX0_breakRing_30) ?_
    refine lb_eq (tgt := 55) (b := (yldB M r o)) hx hb dX0_breakRing_33 (by decide) (fun c_3t => ?_) (fun c_3f => ?_)
    · refine lv_aload_n hx hb dX0_breakRing_55 rfl (lv_at hl 2 rfl) ?_
      refine lv_aload_n hx hb dX0_breakRing_56 rfl (lv_at hl 1 rfl) ?_
      refine lv_aload hx hb dX0_breakRing_57 (lv_at hl 0 rfl) ?_
      refine cl_p (run_V hC (cJ_X0_canYieldTo l G d0 mi Rf ja M E o r B (show o < nR M from h_o) (show r < nR M from h_r) (by assumption) (by assumption) (by assumption)) (As := [.ref (ja 5 o), .ref (ja 5 r)]) (rest := []) rfl rfl ml_X0_143 im_X0_canYieldTo se_X0_canYieldTo ini_X0 cd_X0_canYieldTo ⟨rfl, na_X0_canYieldTo⟩ jB_blind (hW.recv hK (show jV M 0 0 from rfl) rfl) (jB_at hX hRf hW hS) hl.1 (Nat.le_of_ble_eq_true rfl) ⟨Nat.le_of_ble_eq_true rfl, Nat.le_of_ble_eq_true rfl⟩ ⟨Nat.le_refl _, Nat.le_refl _⟩ rfl dX0_breakRing_59) ?_
      refine lb_eq (tgt := 84) (b := (yldB M o r)) hx hb dX0_breakRing_62 (by decide) (fun c_4t => ?_) (fun c_4f => ?_)
      · refine lv_aload_n hx hb dX0_breakRing_84 rfl (lv_at hl 2 rfl) ?_
        refine lv_dup hx hb dX0_breakRing_85 rfl ?_
        refine r1_get hC hK.1 (hW.ob (show jV M 0 0 from rfl)) lay_X0 rfl 5 (by decide) fl_X0_35 (fun x hx => hx) (v := .int (M 31 0)) rfl dX0_breakRing_86 ?_
        refine lv_iconst (v := 1) hx hb dX0_breakRing_89 (by decide) ?_
        refine lv_iadd hx hb dX0_breakRing_90 ?_
        refine jp_r31 hC hK hW hS fl_X0_35 dX0_breakRing_91 (fun H locs hW hS => ?_)
        subst hQ
        rw [show (mset M 31 0 ((M 31 0) + 1)) = bkM M (if abvB M r o = true then o else r) (if abvB M r o = true then r else o) from (by rw [if_neg (by rw [c_1t]; exact fun q => by cases q), if_neg (by rw [c_1t]; exact fun q => by cases q)]; unfold bkM; rw [if_neg (by rw [c_3t]; exact fun q => by cases q), if_neg (by rw [c_4t]; exact fun q => by cases q)]; try rfl)] at hW
        exact rt_qv () hx hb hr hlk hS (trivial) (fun t ht _ => by show WJ G d0 Rf ja _ _ t.heap; rw [ht]; exact hW) (by show 0 ≤ 0; omega) (by show 0 ≤ 0; omega) dX0_breakRing_94
      · refine lv_aload_n hx hb dX0_breakRing_65 rfl (lv_at hl 1 rfl) ?_
        refine lv_aload hx hb dX0_breakRing_66 (lv_at hl 0 rfl) ?_
        refine jcl_v (run_V hC (cJ_X5_yieldTo l G d0 mi Rf ja M E o r (show o < nR M from h_o) (show r < nR M from h_r)) (As := [.ref (ja 5 r)]) (rest := []) rfl rfl ml_X0_147 im_X5_yieldTo se_X5_yieldTo ini_X5 cd_X5_yieldTo ⟨rfl, na_X5_yieldTo⟩ jB_blind (hW.recv hK (show jV M 5 o from h_o) rfl) (jB_at hX hRf hW hS) hl.1 (Nat.le_of_ble_eq_true rfl) ⟨Nat.le_of_ble_eq_true rfl, Nat.le_of_ble_eq_true rfl⟩ ⟨Nat.le_refl _, Nat.le_refl _⟩ rfl dX0_breakRing_68) hS (fun H locs hW hS => ?_)
        refine lv_aload_n hx hb dX0_breakRing_71 rfl (lv_at hl 2 rfl) ?_
        refine lv_dup hx hb dX0_breakRing_72 rfl ?_
        refine r1_get hC hK.1 (hW.ob (show jV (mset (mset M 23 o (M 18 r)) 24 o (-1)) 0 0 from rfl)) lay_X0 rfl 4 (by decide) fl_X0_32 (fun x hx => hx) (v := .int ((mset (mset M 23 o (M 18 r)) 24 o (-1)) 30 0)) rfl dX0_breakRing_73 ?_
        refine lv_iconst (v := 1) hx hb dX0_breakRing_76 (by decide) ?_
        refine lv_iadd hx hb dX0_breakRing_77 ?_
        refine jp_r30 hC hK hW hS fl_X0_32 dX0_breakRing_78 (fun H locs hW hS => ?_)
        refine lv_goto (tgt := 94) hx hb dX0_breakRing_81 (by decide) ?_
        subst hQ
        rw [show (mset (mset (mset M 23 o (M 18 r)) 24 o (-1)) 30 0 (((mset (mset M 23 o (M 18 r)) 24 o (-1)) 30 0) + 1)) = bkM M (if abvB M r o = true then o else r) (if abvB M r o = true then r else o) from (by rw [if_neg (by rw [c_1t]; exact fun q => by cases q), if_neg (by rw [c_1t]; exact fun q => by cases q)]; unfold bkM; rw [if_neg (by rw [c_3t]; exact fun q => by cases q), if_pos c_4f]; try rfl)] at hW
        exact rt_qv () hx hb hr hlk hS (trivial) (fun t ht _ => by show WJ G d0 Rf ja _ _ t.heap; rw [ht]; exact hW) (by show 0 ≤ 0; omega) (by show 0 ≤ 0; omega) dX0_breakRing_94
    · refine lv_aload hx hb dX0_breakRing_36 (lv_at hl 0 rfl) ?_
      refine lv_aload_n hx hb dX0_breakRing_38 rfl (lv_at hl 1 rfl) ?_
      refine jcl_v (run_V hC (cJ_X5_yieldTo l G d0 mi Rf ja M E r o (show r < nR M from h_r) (show o < nR M from h_o)) (As := [.ref (ja 5 o)]) (rest := []) rfl rfl ml_X0_147 im_X5_yieldTo se_X5_yieldTo ini_X5 cd_X5_yieldTo ⟨rfl, na_X5_yieldTo⟩ jB_blind (hW.recv hK (show jV M 5 r from h_r) rfl) (jB_at hX hRf hW hS) hl.1 (Nat.le_of_ble_eq_true rfl) ⟨Nat.le_of_ble_eq_true rfl, Nat.le_of_ble_eq_true rfl⟩ ⟨Nat.le_refl _, Nat.le_refl _⟩ rfl dX0_breakRing_39) hS (fun H locs hW hS => ?_)
      refine lv_aload_n hx hb dX0_breakRing_42 rfl (lv_at hl 2 rfl) ?_
      refine lv_dup hx hb dX0_breakRing_43 rfl ?_
      refine r1_get hC hK.1 (hW.ob (show jV (mset (mset M 23 r (M 18 o)) 24 r (-1)) 0 0 from rfl)) lay_X0 rfl 4 (by decide) fl_X0_32 (fun x hx => hx) (v := .int ((mset (mset M 23 r (M 18 o)) 24 r (-1)) 30 0)) rfl dX0_breakRing_44 ?_
      refine lv_iconst (v := 1) hx hb dX0_breakRing_47 (by decide) ?_
      refine lv_iadd hx hb dX0_breakRing_48 ?_
      refine jp_r30 hC hK hW hS fl_X0_32 dX0_breakRing_49 (fun H locs hW hS => ?_)
      refine lv_goto (tgt := 94) hx hb dX0_breakRing_52 (by decide) ?_
      subst hQ
      rw [show (mset (mset (mset M 23 r (M 18 o)) 24 r (-1)) 30 0 (((mset (mset M 23 r (M 18 o)) 24 r (-1)) 30 0) + 1)) = bkM M (if abvB M r o = true then o else r) (if abvB M r o = true then r else o) from (by rw [if_neg (by rw [c_1t]; exact fun q => by cases q), if_neg (by rw [c_1t]; exact fun q => by cases q)]; unfold bkM; rw [if_pos c_3f]; try rfl)] at hW
      exact rt_qv () hx hb hr hlk hS (trivial) (fun t ht _ => by show WJ G d0 Rf ja _ _ t.heap; rw [ht]; exact hW) (by show 0 ≤ 0; omega) (by show 0 ≤ 0; omega) dX0_breakRing_94
  · refine lv_aload_n hx hb dX0_breakRing_8 rfl (lv_at hl 1 rfl) ?_
    refine lv_goto (tgt := 13) hx hb dX0_breakRing_9 (by decide) ?_
    refine lv_astore_n (lv' := [(3, .ref (ja 5 r)), (0, .ref (ja 0 0)), (1, .ref (ja 5 r)), (2, .ref (ja 5 o))]) hx hb dX0_breakRing_13 rfl hl (by decide) rfl (fun ls hl => ?_)
    refine lv_aload_n hx hb dX0_breakRing_14 rfl (lv_at hl 0 rfl) ?_
    refine lv_aload_n hx hb dX0_breakRing_15 rfl (lv_at hl 2 rfl) ?_
    refine lv_acmp_ne (rx := some (ja 5 r)) (ry := some (ja 5 r)) (tgt := 23) hx hb dX0_breakRing_16 (by decide) (fun c => absurd rfl c) (fun _ => ?_)
    refine lv_aload_n hx hb dX0_breakRing_19 rfl (lv_at hl 3 rfl) ?_
    refine lv_goto (tgt := 24) hx hb dX0_breakRing_20 (by decide) ?_
    refine lv_astore (lv' := [(4, .ref (ja 5 o)), (3, .ref (ja 5 r)), (0, .ref (ja 0 0)), (1, .ref (ja 5 r)), (2, .ref (ja 5 o))]) hx hb dX0_breakRing_24 hl (by decide) rfl (fun ls hl => ?_)
    refine lv_aload_n hx hb dX0_breakRing_26 rfl (lv_at hl 2 rfl) ?_
    refine lv_aload hx hb dX0_breakRing_27 (lv_at hl 0 rfl) ?_
    refine lv_aload_n hx hb dX0_breakRing_29 rfl (lv_at hl 1 rfl) ?_
    refine cl_p (run_V hC (cJ_X0_canYieldTo l G d0 mi Rf ja M E o r B (show o < nR M from h_o) (show r < nR M from h_r) (by assumption) (by assumption) (by assumption)) (As := [.ref (ja 5 o), .ref (ja 5 r)]) (rest := []) rfl rfl ml_X0_143 im_X0_canYieldTo se_X0_canYieldTo ini_X0 cd_X0_canYieldTo ⟨rfl, na_X0_canYieldTo⟩ jB_blind (hW.recv hK (show jV M 0 0 from rfl) rfl) (jB_at hX hRf hW hS) hl.1 (Nat.le_of_ble_eq_true rfl) ⟨Nat.le_of_ble_eq_true rfl, Nat.le_of_ble_eq_true rfl⟩ ⟨Nat.le_refl _, Nat.le_refl _⟩ rfl dX0_breakRing_30) ?_
    refine lb_eq (tgt := 55) (b := (yldB M o r)) hx hb dX0_breakRing_33 (by decide) (fun c_8t => ?_) (fun c_8f => ?_)
    · refine lv_aload_n hx hb dX0_breakRing_55 rfl (lv_at hl 2 rfl) ?_
      refine lv_aload_n hx hb dX0_breakRing_56 rfl (lv_at hl 1 rfl) ?_
      refine lv_aload hx hb dX0_breakRing_57 (lv_at hl 0 rfl) ?_
      refine cl_p (run_V hC (cJ_X0_canYieldTo l G d0 mi Rf ja M E r o B (show r < nR M from h_r) (show o < nR M from h_o) (by assumption) (by assumption) (by assumption)) (As := [.ref (ja 5 r), .ref (ja 5 o)]) (rest := []) rfl rfl ml_X0_143 im_X0_canYieldTo se_X0_canYieldTo ini_X0 cd_X0_canYieldTo ⟨rfl, na_X0_canYieldTo⟩ jB_blind (hW.recv hK (show jV M 0 0 from rfl) rfl) (jB_at hX hRf hW hS) hl.1 (Nat.le_of_ble_eq_true rfl) ⟨Nat.le_of_ble_eq_true rfl, Nat.le_of_ble_eq_true rfl⟩ ⟨Nat.le_refl _, Nat.le_refl _⟩ rfl dX0_breakRing_59) ?_
      refine lb_eq (tgt := 84) (b := (yldB M r o)) hx hb dX0_breakRing_62 (by decide) (fun c_9t => ?_) (fun c_9f => ?_)
      · refine lv_aload_n hx hb dX0_breakRing_84 rfl (lv_at hl 2 rfl) ?_
        refine lv_dup hx hb dX0_breakRing_85 rfl ?_
        refine r1_get hC hK.1 (hW.ob (show jV M 0 0 from rfl)) lay_X0 rfl 5 (by decide) fl_X0_35 (fun x hx => hx) (v := .int (M 31 0)) rfl dX0_breakRing_86 ?_
        refine lv_iconst (v := 1) hx hb dX0_breakRing_89 (by decide) ?_
        refine lv_iadd hx hb dX0_breakRing_90 ?_
        refine jp_r31 hC hK hW hS fl_X0_35 dX0_breakRing_91 (fun H locs hW hS => ?_)
        subst hQ
        rw [show (mset M 31 0 ((M 31 0) + 1)) = bkM M (if abvB M r o = true then o else r) (if abvB M r o = true then r else o) from (by rw [if_pos c_1f, if_pos c_1f]; unfold bkM; rw [if_neg (by rw [c_8t]; exact fun q => by cases q), if_neg (by rw [c_9t]; exact fun q => by cases q)]; try rfl)] at hW
        exact rt_qv () hx hb hr hlk hS (trivial) (fun t ht _ => by show WJ G d0 Rf ja _ _ t.heap; rw [ht]; exact hW) (by show 0 ≤ 0; omega) (by show 0 ≤ 0; omega) dX0_breakRing_94
      · refine lv_aload_n hx hb dX0_breakRing_65 rfl (lv_at hl 1 rfl) ?_
        refine lv_aload hx hb dX0_breakRing_66 (lv_at hl 0 rfl) ?_
        refine jcl_v (run_V hC (cJ_X5_yieldTo l G d0 mi Rf ja M E r o (show r < nR M from h_r) (show o < nR M from h_o)) (As := [.ref (ja 5 o)]) (rest := []) rfl rfl ml_X0_147 im_X5_yieldTo se_X5_yieldTo ini_X5 cd_X5_yieldTo ⟨rfl, na_X5_yieldTo⟩ jB_blind (hW.recv hK (show jV M 5 r from h_r) rfl) (jB_at hX hRf hW hS) hl.1 (Nat.le_of_ble_eq_true rfl) ⟨Nat.le_of_ble_eq_true rfl, Nat.le_of_ble_eq_true rfl⟩ ⟨Nat.le_refl _, Nat.le_refl _⟩ rfl dX0_breakRing_68) hS (fun H locs hW hS => ?_)
        refine lv_aload_n hx hb dX0_breakRing_71 rfl (lv_at hl 2 rfl) ?_
        refine lv_dup hx hb dX0_breakRing_72 rfl ?_
        refine r1_get hC hK.1 (hW.ob (show jV (mset (mset M 23 r (M 18 o)) 24 r (-1)) 0 0 from rfl)) lay_X0 rfl 4 (by decide) fl_X0_32 (fun x hx => hx) (v := .int ((mset (mset M 23 r (M 18 o)) 24 r (-1)) 30 0)) rfl dX0_breakRing_73 ?_
        refine lv_iconst (v := 1) hx hb dX0_breakRing_76 (by decide) ?_
        refine lv_iadd hx hb dX0_breakRing_77 ?_
        refine jp_r30 hC hK hW hS fl_X0_32 dX0_breakRing_78 (fun H locs hW hS => ?_)
        refine lv_goto (tgt := 94) hx hb dX0_breakRing_81 (by decide) ?_
        subst hQ
        rw [show (mset (mset (mset M 23 r (M 18 o)) 24 r (-1)) 30 0 (((mset (mset M 23 r (M 18 o)) 24 r (-1)) 30 0) + 1)) = bkM M (if abvB M r o = true then o else r) (if abvB M r o = true then r else o) from (by rw [if_pos c_1f, if_pos c_1f]; unfold bkM; rw [if_neg (by rw [c_8t]; exact fun q => by cases q), if_pos c_9f]; try rfl)] at hW
        exact rt_qv () hx hb hr hlk hS (trivial) (fun t ht _ => by show WJ G d0 Rf ja _ _ t.heap; rw [ht]; exact hW) (by show 0 ≤ 0; omega) (by show 0 ≤ 0; omega) dX0_breakRing_94
    · refine lv_aload hx hb dX0_breakRing_36 (lv_at hl 0 rfl) ?_
      refine lv_aload_n hx hb dX0_breakRing_38 rfl (lv_at hl 1 rfl) ?_
      refine jcl_v (run_V hC (cJ_X5_yieldTo l G d0 mi Rf ja M E o r (show o < nR M from h_o) (show r < nR M from h_r)) (As := [.ref (ja 5 r)]) (rest := []) rfl rfl ml_X0_147 im_X5_yieldTo se_X5_yieldTo ini_X5 cd_X5_yieldTo ⟨rfl, na_X5_yieldTo⟩ jB_blind (hW.recv hK (show jV M 5 o from h_o) rfl) (jB_at hX hRf hW hS) hl.1 (Nat.le_of_ble_eq_true rfl) ⟨Nat.le_of_ble_eq_true rfl, Nat.le_of_ble_eq_true rfl⟩ ⟨Nat.le_refl _, Nat.le_refl _⟩ rfl dX0_breakRing_39) hS (fun H locs hW hS => ?_)
      refine lv_aload_n hx hb dX0_breakRing_42 rfl (lv_at hl 2 rfl) ?_
      refine lv_dup hx hb dX0_breakRing_43 rfl ?_
      refine r1_get hC hK.1 (hW.ob (show jV (mset (mset M 23 o (M 18 r)) 24 o (-1)) 0 0 from rfl)) lay_X0 rfl 4 (by decide) fl_X0_32 (fun x hx => hx) (v := .int ((mset (mset M 23 o (M 18 r)) 24 o (-1)) 30 0)) rfl dX0_breakRing_44 ?_
      refine lv_iconst (v := 1) hx hb dX0_breakRing_47 (by decide) ?_
      refine lv_iadd hx hb dX0_breakRing_48 ?_
      refine jp_r30 hC hK hW hS fl_X0_32 dX0_breakRing_49 (fun H locs hW hS => ?_)
      refine lv_goto (tgt := 94) hx hb dX0_breakRing_52 (by decide) ?_
      subst hQ
      rw [show (mset (mset (mset M 23 o (M 18 r)) 24 o (-1)) 30 0 (((mset (mset M 23 o (M 18 r)) 24 o (-1)) 30 0) + 1)) = bkM M (if abvB M r o = true then o else r) (if abvB M r o = true then r else o) from (by rw [if_pos c_1f, if_pos c_1f]; unfold bkM; rw [if_pos c_8f]; try rfl)] at hW
      exact rt_qv () hx hb hr hlk hS (trivial) (fun t ht _ => by show WJ G d0 Rf ja _ _ t.heap; rw [ht]; exact hW) (by show 0 ≤ 0; omega) (by show 0 ≤ 0; omega) dX0_breakRing_94
set_option maxHeartbeats 4000000 in
set_option maxRecDepth 100000 in
theorem cJ_X0_gatherRing (l : Launch) (G : gG) (d0 mi : Nat) (Rf : Nat → Prop) (ja : Nat → Nat → Nat) (M : MS) (E : ES) (r : Nat) (B : Nat) (h_r : r < nR M) (hI : INV B M) : Met l yX0_gatherRing (wB yX0_gatherRing cX0_gatherRing 4 none) (rmL 7 (uC E 5) (10 * uC E 5)) (va_Pc [.ref (ja 0 0), .ref (ja 5 r)] (jB G d0 mi Rf ja M E)) (va_Qv (S := ES) (fun E2 => GR M r E E2) (fun E2 z9 => WJ G d0 Rf ja (M) (E2) z9.heap) (jA Rf)) (uC E 5) (10 * uC E 5) (jA Rf) := by
  refine st_N (own := RX0) (by decide +kernel) rfl (Nat.le_of_ble_eq_true rfl) ?_
  intro p e s m below meth c ls args Q hQ hC hr hlk hnm hl hP
  obtain ⟨hW, hX, hRf⟩ := hP
  have hK := hX.1
  have hx := hC.1
  have hb := hC.2.1
  have hl : lv_has ls 4 [(0, .ref (ja 0 0)), (1, .ref (ja 5 r))] := hl
  obtain ⟨H, locs, hHe, hLe⟩ : ∃ (H : Heap) (locs : List Loc), H = s.heap ∧ locs = [] := ⟨_, _, rfl, rfl⟩
  rw [← hHe] at hW
  have hS : va_S (jA Rf) s.heap H locs := by rw [hHe, hLe]; exact va_S.rf
  suffices hgo : W p l e (rmL 7 (uC E 5) (10 * uC E 5)) s m args below meth c H locs 0 0 Q (F0 m 0 ls []) by
    rw [hHe, hLe] at hgo
    exact hgo
  clear hHe hLe
  have h6 := hI.c.R6
  have hu18 := hI.u18
  refine lv_aload_n hx hb dX0_gatherRing_0 rfl (lv_at hl 0 rfl) ?_
  refine r1_get hC hK.1 (hW.ob (show jV M 0 0 from rfl)) lay_X0 rfl 6 (by decide) fl_X0_38 (fun x hx => hx) (v := .ref (ja 10 5)) rfl dX0_gatherRing_1 ?_
  refine jr_clear hC hX hRf hW hS (i := 5) (Or.inl rfl) ml_X0_118 hl.1 (Nat.le_of_ble_eq_true rfl) ⟨Nat.le_of_ble_eq_true rfl, Nat.le_of_ble_eq_true rfl, (by show 0 ≤ uC E 5; omega), (by show 0 ≤ 10 * uC E 5; omega)⟩ dX0_gatherRing_4 (fun H locs hW hS => ?_)
  obtain ⟨E4, hE4⟩ : ∃ z, z = chE E 5 0 (eL E 5) (eC E 5) := ⟨_, rfl⟩
  rw [← hE4] at hW
  refine lv_aload_n hx hb dX0_gatherRing_7 rfl (lv_at hl 1 rfl) ?_
  refine lv_astore_n (lv' := [(2, .ref (ja 5 r)), (0, .ref (ja 0 0)), (1, .ref (ja 5 r))]) hx hb dX0_gatherRing_8 rfl hl (by decide) rfl (fun ls hl => ?_)
  refine lv_iconst (v := 0) hx hb dX0_gatherRing_9 (by decide) ?_
  refine lv_istore_n (lv' := [(3, .int 0), (2, .ref (ja 5 r)), (0, .ref (ja 0 0)), (1, .ref (ja 5 r))]) hx hb dX0_gatherRing_10 rfl hl (by decide) rfl (fun ls hl => ?_)
  have loop1 : ∀ (n_ : Nat) (i : Nat) (cu : Nat) (su : Nat) (Ei : ES) (H : Heap) (locs : List Loc) (hi : i ≤ 6) (hEi : RK E Ei ∧ eN Ei 5 = i ∧ (∀ j, j < i → eL Ei 5 j = rgI M r j)) (hN9 : if i ≤ 5 then rgN M r = rgS M r (6 - i) (i + 1) (nxtA M (rgI M r i)) ∧ rgI M r i < nR M else rgN M r = 0) (hcu : cu + uC Ei 5 ≤ uC E 5) (hsu : su + 10 * uC Ei 5 ≤ 10 * uC E 5) (hU9 : 0 < i → uC Ei 5 = 0) (hW : WJ G d0 Rf ja M Ei H) (hS : va_S (jA Rf) s.heap H locs) (ls : Array Slot), 6 - i < n_ → lv_has ls 4 [(3, .int (nI i)), (2, .ref (ja 5 (rgI M r i))), (0, .ref (ja 0 0)), (1, .ref (ja 5 r))] → W p l e (rmL 7 (uC E 5) (10 * uC E 5)) s m args below meth c H locs cu su Q (F0 m 11 ls []) := by
    intro n_
    induction n_ with
    | zero => intro i cu su Ei H locs hi hEi hN9 hcu hsu hU9 hW hS ls hm hl; omega
    | succ n_ ih1 =>
      intro i cu su Ei H locs hi hEi hN9 hcu hsu hU9 hW hS ls hm hl
      refine lv_iload_n hx hb dX0_gatherRing_11 rfl (lv_at hl 0 rfl) ?_
      refine lv_bipush (v := 6) hx hb dX0_gatherRing_12 (by decide) ?_
      refine ln_ge (tgt := 65) (a := i) (b := 6) hx hb dX0_gatherRing_14 (by decide) rfl rfl (by omega) (by omega) (fun c_2t => ?_) (fun c_2f => ?_)
      · rw [if_neg (by omega)] at hN9
        obtain ⟨hEr, hEn, hEl⟩ := hEi
        have hgn : rgN M r = 0 := hN9
        have hu5 : cu ≤ uC E 5 ∧ su ≤ 10 * uC E 5 := by omega
        refine lv_aload_n hx hb dX0_gatherRing_65 rfl (lv_at hl 2 rfl) ?_
        refine r1_get hC hK.1 (hW.ob (show jV M 0 0 from rfl)) lay_X0 rfl 6 (by decide) fl_X0_38 (fun x hx => hx) (v := .ref (ja 10 5)) rfl dX0_gatherRing_66 ?_
        have hu0 : uC Ei 5 = 0 := hU9 (by omega)
        refine jr_clear hC hX hRf hW hS (i := 5) (Or.inl rfl) ml_X0_118 hl.1 (Nat.le_of_ble_eq_true rfl) ⟨Nat.le_of_ble_eq_true rfl, Nat.le_of_ble_eq_true rfl, (by show cu ≤ uC E 5; omega), (by show su ≤ 10 * uC E 5; omega)⟩ dX0_gatherRing_69 (fun H locs hW hS => ?_)
        obtain ⟨E6, hE6⟩ : ∃ z, z = chE Ei 5 0 (eL Ei 5) (eC Ei 5) := ⟨_, rfl⟩
        rw [← hE6] at hW
        subst hQ
        exact rt_qv E6 hx hb hr hlk hS (⟨hEr.tr (by rw [hE6]; exact RK.ch), by rw [hE6, chE_N, hgn], by rw [hgn]; exact fun j hj => absurd hj (Nat.not_lt_zero j), by rw [hE6, uC_same]; exact hu0⟩) (fun t ht _ => by show WJ G d0 Rf ja _ _ t.heap; rw [ht]; exact hW) (by show cu ≤ uC E 5; omega) (by show su ≤ 10 * uC E 5; omega) dX0_gatherRing_72
      · rw [if_pos (by omega)] at hN9
        obtain ⟨hN9, hx9⟩ := hN9
        obtain ⟨hEr, hEn, hEl⟩ := hEi
        refine lv_aload_n hx hb dX0_gatherRing_17 rfl (lv_at hl 2 rfl) ?_
        refine r1_get hC hK.1 (hW.ob (show jV M 0 0 from rfl)) lay_X0 rfl 6 (by decide) fl_X0_38 (fun x hx => hx) (v := .ref (ja 10 5)) rfl dX0_gatherRing_18 ?_
        refine lv_aload_n hx hb dX0_gatherRing_21 rfl (lv_at hl 1 rfl) ?_
        refine jr_add hC hX hRf hW hS (i := 5) (Or.inl rfl) (show (rgI M r i) < nR M from hx9) (by omega) ml_X0_121 hl.1 (Nat.le_of_ble_eq_true rfl) ⟨Nat.le_of_ble_eq_true rfl, Nat.le_of_ble_eq_true rfl⟩ ⟨by show cu + uC Ei 5 ≤ uC E 5; omega, by show su + 10 * uC Ei 5 ≤ 10 * uC E 5; omega⟩ dX0_gatherRing_22 (fun rz_ H locs hW hS => ?_)
        obtain ⟨E5, hE5⟩ : ∃ z, z = chE Ei 5 (eN Ei 5 + 1) (fup (eL Ei 5) (eN Ei 5) (rgI M r i)) (capN (eC Ei 5) (eN Ei 5)) := ⟨_, rfl⟩
        rw [← hE5] at hW
        replace hEr : RK E E5 := hEr.tr (by rw [hE5]; exact RK.ch)
        replace hEl : ∀ j, j < i + 1 → eL E5 5 j = rgI M r j := fun j hj => by
          rw [hE5, chE_L, hEn]; unfold fup
          by_cases q : j = i
          · rw [if_pos q, q]
          · rw [if_neg q]; exact hEl j (by omega)
        have hu5 : uC E5 5 = 0 := by rw [hE5]; exact uC_add
        replace hEn : eN E5 5 = i + 1 := by rw [hE5, chE_N, hEn]
        clear hE5
        refine lv_pop hx hb dX0_gatherRing_25 rfl ?_
        refine lv_aload_n hx hb dX0_gatherRing_26 rfl (lv_at hl 2 rfl) ?_
        refine lv_aload_n hx hb dX0_gatherRing_27 rfl (lv_at hl 1 rfl) ?_
        refine r1_get hC hK.1 (hW.ob (show jV M 5 (rgI M r i) from hx9)) lay_X5 rfl 6 (by decide) fl_X0_125 (fun x hx => hx) (v := .int (M 24 (rgI M r i))) rfl dX0_gatherRing_28 ?_
        refine cl_p (run_V hC (cJ_X0_robotAt l G d0 mi Rf ja M E5 (M 24 (rgI M r i)) hu18) (As := [.int (M 24 (rgI M r i))]) (rest := []) rfl rfl ml_X0_128 im_X0_robotAt se_X0_robotAt ini_X0 cd_X0_robotAt ⟨rfl, na_X0_robotAt⟩ jB_blind (hW.recv hK (show jV M 0 0 from rfl) rfl) (jB_at hX hRf hW hS) hl.1 (Nat.le_of_ble_eq_true rfl) ⟨Nat.le_of_ble_eq_true rfl, Nat.le_of_ble_eq_true rfl⟩ ⟨by show (cu + uC Ei 5) + 0 ≤ uC E 5; omega, by show (su + 10 * uC Ei 5) + 0 ≤ 10 * uC E 5; omega⟩ rfl dX0_gatherRing_31) ?_
        rcases ho3 : rbA M (M 24 (rgI M r i)) with _ | k3
        · refine top_v (y := .null) rfl ?_
          refine lv_astore_nN (lv' := [(2, .null), (3, .int (nI i)), (0, .ref (ja 0 0)), (1, .ref (ja 5 r))]) hx hb dX0_gatherRing_34 rfl hl (by decide) rfl (fun ls hl => ?_)
          refine lv_aload_nN hx hb dX0_gatherRing_35 rfl (lv_at hl 0 rfl) ?_
          refine lv_aload_n hx hb dX0_gatherRing_36 rfl (lv_at hl 3 rfl) ?_
          refine lv_acmp_ne (rx := none) (ry := some (ja 5 r)) (tgt := 41) hx hb dX0_gatherRing_37 (by decide) (fun _ => ?_) (fun c => absurd c (by simp))
          refine lv_aload_nN hx hb dX0_gatherRing_41 rfl (lv_at hl 0 rfl) ?_
          refine lv_ifnullN (tgt := 65) hx hb dX0_gatherRing_42 (by decide) ?_
          have hgn : rgN M r = 0 := by rw [hN9, nxt_rb hI, ho3, show 6 - i = (5 - i) + 1 by omega]; exact rgS_n
          refine lv_aload_n hx hb dX0_gatherRing_65 rfl (lv_at hl 2 rfl) ?_
          refine r1_get hC hK.1 (hW.ob (show jV M 0 0 from rfl)) lay_X0 rfl 6 (by decide) fl_X0_38 (fun x hx => hx) (v := .ref (ja 10 5)) rfl dX0_gatherRing_66 ?_
          refine jr_clear hC hX hRf hW hS (i := 5) (Or.inl rfl) ml_X0_118 hl.1 (Nat.le_of_ble_eq_true rfl) ⟨Nat.le_of_ble_eq_true rfl, Nat.le_of_ble_eq_true rfl, (by show cu + uC Ei 5 ≤ uC E 5; omega), (by show su + 10 * uC Ei 5 ≤ 10 * uC E 5; omega)⟩ dX0_gatherRing_69 (fun H locs hW hS => ?_)
          obtain ⟨E6, hE6⟩ : ∃ z, z = chE E5 5 0 (eL E5 5) (eC E5 5) := ⟨_, rfl⟩
          rw [← hE6] at hW
          subst hQ
          exact rt_qv E6 hx hb hr hlk hS (⟨hEr.tr (by rw [hE6]; exact RK.ch), by rw [hE6, chE_N, hgn], by rw [hgn]; exact fun j hj => absurd hj (Nat.not_lt_zero j), by rw [hE6, uC_same]; exact hu5⟩) (fun t ht _ => by show WJ G d0 Rf ja _ _ t.heap; rw [ht]; exact hW) (by show cu + uC Ei 5 ≤ uC E 5; omega) (by show su + 10 * uC Ei 5 ≤ 10 * uC E 5; omega) dX0_gatherRing_72
        · refine top_v (y := .ref (ja 5 k3)) rfl ?_
          have hlt_k3 := (lastE_lt ho3).1
          refine lv_astore_n (lv' := [(2, .ref (ja 5 k3)), (3, .int (nI i)), (0, .ref (ja 0 0)), (1, .ref (ja 5 r))]) hx hb dX0_gatherRing_34 rfl hl (by decide) rfl (fun ls hl => ?_)
          refine lv_aload_n hx hb dX0_gatherRing_35 rfl (lv_at hl 0 rfl) ?_
          refine lv_aload_n hx hb dX0_gatherRing_36 rfl (lv_at hl 3 rfl) ?_
          refine lv_acmp_ne (rx := some (ja 5 k3)) (ry := some (ja 5 r)) (tgt := 41) hx hb dX0_gatherRing_37 (by decide) (fun c_5t => ?_) (fun c_5f => ?_)
          · have c_5t : ¬ k3 = r := fun q => c_5t (by rw [q])
            refine lv_aload_n hx hb dX0_gatherRing_41 rfl (lv_at hl 0 rfl) ?_
            refine lv_ifnull hx hb dX0_gatherRing_42 ?_
            refine lv_aload_n hx hb dX0_gatherRing_45 rfl (lv_at hl 0 rfl) ?_
            refine r1_get hC hK.1 (hW.ob (show jV M 5 k3 from hlt_k3)) lay_X5 rfl 0 (by decide) fl_X0_132 (fun x hx => hx) (v := .int (nI k3)) rfl dX0_gatherRing_46 ?_
            refine lv_aload_n hx hb dX0_gatherRing_49 rfl (lv_at hl 3 rfl) ?_
            refine r1_get hC hK.1 (hW.ob (show jV M 5 r from h_r)) lay_X5 rfl 0 (by decide) fl_X0_132 (fun x hx => hx) (v := .int (nI r)) rfl dX0_gatherRing_50 ?_
            refine ln_ge (tgt := 59) (a := k3) (b := r) hx hb dX0_gatherRing_53 (by decide) rfl rfl (by omega) (by omega) (fun c_6t => ?_) (fun c_6f => ?_)
            · have hgt : r < k3 := by omega
              have hnx : rgI M r (i + 1) = k3 := by rw [rgI_s, nxt_rb hI, ho3]; rfl
              have hN10 : (if i + 1 ≤ 5 then rgN M r = rgS M r (6 - (i + 1)) (i + 1 + 1) (nxtA M (rgI M r (i + 1))) ∧ rgI M r (i + 1) < nR M else rgN M r = 0) := by
                by_cases q : i + 1 ≤ 5
                · rw [if_pos q, hnx]
                  refine ⟨?_, hlt_k3⟩
                  rw [hN9, nxt_rb hI (rgI M r i), ho3, show 6 - i = (6 - (i + 1)) + 1 by omega, rgS_g hgt (by omega)]
                · rw [if_neg q, hN9, nxt_rb hI (rgI M r i), ho3, show 6 - i = (5 - i) + 1 by omega, rgS_6 hgt (by omega)]
              rw [← hnx] at hl
              refine lv_iinc (v := nI (i + 1)) (lv' := [(3, .int (nI (i + 1))), (2, .ref (ja 5 (rgI M r (i + 1)))), (0, .ref (ja 0 0)), (1, .ref (ja 5 r))]) hx hb dX0_gatherRing_59 hl (k := 1) rfl (nI_inc _) (by decide) rfl (fun ls hl => ?_)
              refine lv_goto (tgt := 11) hx hb dX0_gatherRing_62 (by decide) ?_
              exact ih1 (i + 1) (cu + uC Ei 5) (su + 10 * uC Ei 5) E5 H locs (by omega) (⟨hEr, hEn, hEl⟩) hN10 (by omega) (by omega) (fun _ => hu5) hW hS ls (by omega) (lv_sub hl [0, 1, 2, 3] rfl)
            · refine lv_goto (tgt := 65) hx hb dX0_gatherRing_56 (by decide) ?_
              have hgn : rgN M r = 0 := by rw [hN9, nxt_rb hI, ho3, show 6 - i = (5 - i) + 1 by omega]; exact rgS_l (by omega)
              refine lv_aload_n hx hb dX0_gatherRing_65 rfl (lv_at hl 2 rfl) ?_
              refine r1_get hC hK.1 (hW.ob (show jV M 0 0 from rfl)) lay_X0 rfl 6 (by decide) fl_X0_38 (fun x hx => hx) (v := .ref (ja 10 5)) rfl dX0_gatherRing_66 ?_
              refine jr_clear hC hX hRf hW hS (i := 5) (Or.inl rfl) ml_X0_118 hl.1 (Nat.le_of_ble_eq_true rfl) ⟨Nat.le_of_ble_eq_true rfl, Nat.le_of_ble_eq_true rfl, (by show cu + uC Ei 5 ≤ uC E 5; omega), (by show su + 10 * uC Ei 5 ≤ 10 * uC E 5; omega)⟩ dX0_gatherRing_69 (fun H locs hW hS => ?_)
              obtain ⟨E6, hE6⟩ : ∃ z, z = chE E5 5 0 (eL E5 5) (eC E5 5) := ⟨_, rfl⟩
              rw [← hE6] at hW
              subst hQ
              exact rt_qv E6 hx hb hr hlk hS (⟨hEr.tr (by rw [hE6]; exact RK.ch), by rw [hE6, chE_N, hgn], by rw [hgn]; exact fun j hj => absurd hj (Nat.not_lt_zero j), by rw [hE6, uC_same]; exact hu5⟩) (fun t ht _ => by show WJ G d0 Rf ja _ _ t.heap; rw [ht]; exact hW) (by show cu + uC Ei 5 ≤ uC E 5; omega) (by show su + 10 * uC Ei 5 ≤ 10 * uC E 5; omega) dX0_gatherRing_72
          · have c_5f : k3 = r := (hW.inj (show jV M 5 k3 from hlt_k3) (show jV M 5 r from h_r)).mp (Option.some.inj c_5f)
            have hgn : rgN M r = i + 1 := by rw [hN9, nxt_rb hI, ho3, c_5f, show 6 - i = (5 - i) + 1 by omega]; exact rgS_r
            subst hQ
            exact rt_qv E5 hx hb hr hlk hS (⟨hEr, by rw [hEn, hgn], by rw [hgn]; exact hEl, hu5⟩) (fun t ht _ => by show WJ G d0 Rf ja _ _ t.heap; rw [ht]; exact hW) (by show cu + uC Ei 5 ≤ uC E 5; omega) (by show su + 10 * uC Ei 5 ≤ 10 * uC E 5; omega) dX0_gatherRing_40
  exact loop1 ((6 - 0) + 1) 0 0 0 E4 H locs (Nat.zero_le _) (⟨by rw [hE4]; exact RK.ch, by rw [hE4]; exact chE_N, fun j hj => absurd hj (Nat.not_lt_zero j)⟩) (by rw [if_pos (by omega)]; exact ⟨rfl, h_r⟩) (by rw [hE4, uC_same]; omega) (by rw [hE4, uC_same]; omega) (fun q => absurd q (Nat.lt_irrefl 0)) hW hS ls (by omega) (lv_sub hl [0, 1, 2, 3] rfl)
set_option maxHeartbeats 4000000 in
set_option maxRecDepth 100000 in
theorem cJ_X0_turnRing (l : Launch) (G : gG) (d0 mi : Nat) (Rf : Nat → Prop) (ja : Nat → Nat → Nat) (M : MS) (E : ES) (B : Nat) (r : Nat) (hI : INV B M) (h_r : r < nR M) (hn0 : 0 < rgN M r) (hsz : eN E 5 = rgN M r) (hel : ∀ j, j < rgN M r → eL E 5 j = rgI M r j) : Met l yX0_turnRing (wB yX0_turnRing cX0_turnRing 3 none) (rmL 3 0 0) (va_Pc [.ref (ja 0 0)] (jB G d0 mi Rf ja M E)) (va_Qv (S := Unit) (fun _ => True) (fun _ z9 => WJ G d0 Rf ja (trnF M r) (E) z9.heap) (jA Rf)) 0 0 (jA Rf) := by
  refine st_N (own := RX0) (by decide +kernel) rfl (Nat.le_of_ble_eq_true rfl) ?_
  intro p e s m below meth c ls args Q hQ hC hr hlk hnm hl hP
  obtain ⟨hW, hX, hRf⟩ := hP
  have hK := hX.1
  have hx := hC.1
  have hb := hC.2.1
  have hl : lv_has ls 3 [(0, .ref (ja 0 0))] := hl
  obtain ⟨H, locs, hHe, hLe⟩ : ∃ (H : Heap) (locs : List Loc), H = s.heap ∧ locs = [] := ⟨_, _, rfl, rfl⟩
  rw [← hHe] at hW
  have hS : va_S (jA Rf) s.heap H locs := by rw [hHe, hLe]; exact va_S.rf
  suffices hgo : W p l e (rmL 3 0 0) s m args below meth c H locs 0 0 Q (F0 m 0 ls []) by
    rw [hHe, hLe] at hgo
    exact hgo
  clear hHe hLe
  refine lv_iconst (v := 0) hx hb dX0_turnRing_0 (by decide) ?_
  refine lv_istore_n (lv' := [(1, .int 0), (0, .ref (ja 0 0))]) hx hb dX0_turnRing_1 rfl hl (by decide) rfl (fun ls hl => ?_)
  have loop1 : ∀ (n_ : Nat) (j : Nat) (Mj : MS) (H : Heap) (locs : List Loc) (hj : j ≤ rgN M r) (hMj : Mj = tqM M r j) (hW : WJ G d0 Rf ja Mj E H) (hS : va_S (jA Rf) s.heap H locs) (ls : Array Slot), rgN M r - j < n_ → lv_has ls 3 [(1, .int (nI j)), (0, .ref (ja 0 0))] → W p l e (rmL 3 0 0) s m args below meth c H locs 0 0 Q (F0 m 2 ls []) := by
    intro n_
    induction n_ with
    | zero => intro j Mj H locs hj hMj hW hS ls hm hl; omega
    | succ n_ ih1 =>
      intro j Mj H locs hj hMj hW hS ls hm hl
      have hg6 := rgN_le M r
      have hnj : nR Mj = nR M := by rw [hMj]; unfold nR; rw [tq_row (by decide) (by decide) (by decide) (by decide)]
      have hv9 : ∀ j, j ≤ rgN M r → rgI M r j < nR Mj := fun j hj => by rw [hnj]; exact ring_lt h_r hn0 j hj
      refine lv_iload_n hx hb dX0_turnRing_2 rfl (lv_at hl 0 rfl) ?_
      refine lv_aload_n hx hb dX0_turnRing_3 rfl (lv_at hl 1 rfl) ?_
      refine r1_get hC hK.1 (hW.ob (show jV Mj 0 0 from rfl)) lay_X0 rfl 6 (by decide) fl_X0_38 (fun x hx => hx) (v := .ref (ja 10 5)) rfl dX0_turnRing_4 ?_
      refine jw_size hC hK hW.1 (i := 5) (Or.inl (by decide)) ml_X0_44 hl.1 (Nat.le_of_ble_eq_true rfl) ⟨Nat.le_of_ble_eq_true rfl, Nat.le_of_ble_eq_true rfl, Nat.le_refl _, Nat.le_refl _⟩ dX0_turnRing_7 ?_
      refine top_i (y := nI (rgN M r)) (congrArg nI hsz) ?_
      refine ln_ge (tgt := 40) (a := j) (b := (rgN M r)) hx hb dX0_turnRing_10 (by decide) rfl rfl (by omega) (by omega) (fun c_2t => ?_) (fun c_2f => ?_)
      · refine lv_aload_n hx hb dX0_turnRing_40 rfl (lv_at hl 1 rfl) ?_
        refine lv_dup hx hb dX0_turnRing_41 rfl ?_
        refine r1_get hC hK.1 (hW.ob (show jV Mj 0 0 from rfl)) lay_X0 rfl 3 (by decide) fl_X0_29 (fun x hx => hx) (v := .int (Mj 29 0)) rfl dX0_turnRing_42 ?_
        refine lv_iconst (v := 1) hx hb dX0_turnRing_45 (by decide) ?_
        refine lv_iadd hx hb dX0_turnRing_46 ?_
        refine jp_r29 hC hK hW hS fl_X0_29 dX0_turnRing_47 (fun H locs hW hS => ?_)
        subst hQ
        rw [show (mset Mj 29 0 ((Mj 29 0) + 1)) = trnF M r from (by rw [hMj, show j = rgN M r by omega]; exact tq_trn h_r hn0)] at hW
        exact rt_qv () hx hb hr hlk hS (trivial) (fun t ht _ => by show WJ G d0 Rf ja _ _ t.heap; rw [ht]; exact hW) (by show 0 ≤ 0; omega) (by show 0 ≤ 0; omega) dX0_turnRing_50
      · refine lv_aload_n hx hb dX0_turnRing_13 rfl (lv_at hl 1 rfl) ?_
        refine r1_get hC hK.1 (hW.ob (show jV Mj 0 0 from rfl)) lay_X0 rfl 6 (by decide) fl_X0_38 (fun x hx => hx) (v := .ref (ja 10 5)) rfl dX0_turnRing_14 ?_
        refine lv_iload_n hx hb dX0_turnRing_17 rfl (lv_at hl 0 rfl) ?_
        refine jw_get hC hK hW.1 (i := 5) (j := j) (Or.inl (by decide)) (show j < jn Mj E 5 from (by show j < eN E 5; omega)) ml_X0_48 hl.1 (Nat.le_of_ble_eq_true rfl) ⟨Nat.le_of_ble_eq_true rfl, Nat.le_of_ble_eq_true rfl, Nat.le_refl _, Nat.le_refl _⟩ dX0_turnRing_18 ?_
        refine top_r (y := (ja 5 (rgI M r j))) (by show ja 5 (eL E 5 j) = _; rw [hel j (by omega)]) ?_
        refine jw_cast hC hK (hW.ob (show jV Mj 5 (rgI M r j) from (hv9 j (by omega)))) rfl cl_X0_52 dX0_turnRing_21 ?_
        have hask : Mj 24 (rgI M r j) = M 24 (rgI M r j) := by
          rw [hMj, (tq_rob _ j).2.1, if_neg]
          intro q
          obtain ⟨i9, hi9, e9⟩ := mem_t.mp q
          exact ring_inj hi9 (by omega) e9
        refine lv_astore_n (lv' := [(2, .ref (ja 5 (rgI M r j))), (1, .int (nI j)), (0, .ref (ja 0 0))]) hx hb dX0_turnRing_24 rfl hl (by decide) rfl (fun ls hl => ?_)
        refine lv_aload_n hx hb dX0_turnRing_25 rfl (lv_at hl 2 rfl) ?_
        refine lv_aload_n hx hb dX0_turnRing_26 rfl (lv_at hl 0 rfl) ?_
        refine lv_aload_n hx hb dX0_turnRing_27 rfl (lv_at hl 0 rfl) ?_
        refine r1_get hC hK.1 (hW.ob (show jV Mj 5 (rgI M r j) from (hv9 j (by omega)))) lay_X5 rfl 6 (by decide) fl_X0_125 (fun x hx => hx) (v := .int (M 24 (rgI M r j))) (congrArg (fun z => some (Value.int z)) hask) dX0_turnRing_28 ?_
        refine jcl_v (run_V hC (cJ_X0_moveRobot l G d0 mi Rf ja Mj E (rgI M r j) (M 24 (rgI M r j)) (show (rgI M r j) < nR Mj from (hv9 j (by omega)))) (As := [.ref (ja 5 (rgI M r j)), .int (M 24 (rgI M r j))]) (rest := []) rfl rfl ml_X0_135 im_X0_moveRobot se_X0_moveRobot ini_X0 cd_X0_moveRobot ⟨rfl, na_X0_moveRobot⟩ jB_blind (hW.recv hK (show jV Mj 0 0 from rfl) rfl) (jB_at hX hRf hW hS) hl.1 (Nat.le_of_ble_eq_true rfl) ⟨Nat.le_of_ble_eq_true rfl, Nat.le_of_ble_eq_true rfl⟩ ⟨Nat.le_refl _, Nat.le_refl _⟩ rfl dX0_turnRing_31) hS (fun H locs hW hS => ?_)
        refine lv_iinc (v := nI (j + 1)) (lv' := [(1, .int (nI (j + 1))), (2, .ref (ja 5 (rgI M r j))), (0, .ref (ja 0 0))]) hx hb dX0_turnRing_34 hl (k := 1) rfl (nI_inc _) (by decide) rfl (fun ls hl => ?_)
        refine lv_goto (tgt := 2) hx hb dX0_turnRing_37 (by decide) ?_
        exact ih1 (j + 1) (mvF Mj (rgI M r j) (M 24 (rgI M r j))) H locs (by omega) (by rw [hMj]; rfl) hW hS ls (by omega) (lv_sub hl [0, 2] rfl)
  exact loop1 ((rgN M r - 0) + 1) 0 M H locs (Nat.zero_le _) rfl hW hS ls (by omega) (lv_sub hl [0, 1] rfl)
set_option maxHeartbeats 4000000 in
set_option maxRecDepth 100000 in
theorem cJ_X0_settleRings (l : Launch) (G : gG) (d0 mi : Nat) (Rf : Nat → Prop) (ja : Nat → Nat → Nat) (M : MS) (E : ES) (B : Nat) (hI : INV B M) (hD : hD_ M E) : Met l yX0_settleRings (wB yX0_settleRings cX0_settleRings 2 none) (rmL 8 (uC E 5) (10 * uC E 5)) (va_Pc [.ref (ja 0 0)] (jB G d0 mi Rf ja M E)) (va_Qv (S := ES) (fun E2 => RK E E2) (fun E2 z9 => WJ G d0 Rf ja (itR resS (nR M) M) (E2) z9.heap) (jA Rf)) (uC E 5) (10 * uC E 5) (jA Rf) := by
  refine st_N (own := RX0) (by decide +kernel) rfl (Nat.le_of_ble_eq_true rfl) ?_
  intro p e s m below meth c ls args Q hQ hC hr hlk hnm hl hP
  obtain ⟨hW, hX, hRf⟩ := hP
  have hK := hX.1
  have hx := hC.1
  have hb := hC.2.1
  have hl : lv_has ls 2 [(0, .ref (ja 0 0))] := hl
  obtain ⟨H, locs, hHe, hLe⟩ : ∃ (H : Heap) (locs : List Loc), H = s.heap ∧ locs = [] := ⟨_, _, rfl, rfl⟩
  rw [← hHe] at hW
  have hS : va_S (jA Rf) s.heap H locs := by rw [hHe, hLe]; exact va_S.rf
  suffices hgo : W p l e (rmL 8 (uC E 5) (10 * uC E 5)) s m args below meth c H locs 0 0 Q (F0 m 0 ls []) by
    rw [hHe, hLe] at hgo
    exact hgo
  clear hHe hLe
  refine lv_iconst (v := 0) hx hb dX0_settleRings_0 (by decide) ?_
  refine lv_istore_n (lv' := [(1, .int 0), (0, .ref (ja 0 0))]) hx hb dX0_settleRings_1 rfl hl (by decide) rfl (fun ls hl => ?_)
  have loop1 : ∀ (n_ : Nat) (i : Nat) (cu : Nat) (su : Nat) (Mi : MS) (Ei : ES) (H : Heap) (locs : List Loc) (hi : i ≤ nR M) (hMi : Mi = itR resS i M) (hEi : RK E Ei) (hcu : cu + uC Ei 5 ≤ uC E 5) (hsu : su + 10 * uC Ei 5 ≤ 10 * uC E 5) (hu9 : 0 < i → uC Ei 5 = 0) (hW : WJ G d0 Rf ja Mi Ei H) (hS : va_S (jA Rf) s.heap H locs) (ls : Array Slot), nR M - i < n_ → lv_has ls 2 [(1, .int (nI i)), (0, .ref (ja 0 0))] → W p l e (rmL 8 (uC E 5) (10 * uC E 5)) s m args below meth c H locs cu su Q (F0 m 2 ls []) := by
    intro n_
    induction n_ with
    | zero => intro i cu su Mi Ei H locs hi hMi hEi hcu hsu hu9 hW hS ls hm hl; omega
    | succ n_ ih1 =>
      intro i cu su Mi Ei H locs hi hMi hEi hcu hsu hu9 hW hS ls hm hl
      have h6 := hI.c.R6
      obtain ⟨hIi, hki⟩ := itR_INV hI (f := resS) (N := nR M) (fun M1 q a b c => INV_res a (by rw [b.eR]; exact c)) i hi
      have hdi := itR_DK hI (f := resS) (N := nR M) (fun M1 q a b c => INV_res a (by rw [b.eR]; exact c)) (fun M1 q a b c => DK_res a (by rw [b.eR]; exact c)) i hi
      rw [← hMi] at hIi hki hdi
      have hni : nR Mi = nR M := hki.eR
      have hDi : hD_ Mi Ei := hdi.hD hI.u18 hIi.u18 hEi.1.2.1 hD
      refine lv_iload_n hx hb dX0_settleRings_2 rfl (lv_at hl 0 rfl) ?_
      refine lv_aload_n hx hb dX0_settleRings_3 rfl (lv_at hl 1 rfl) ?_
      refine r1_get hC hK.1 (hW.ob (show jV Mi 0 0 from rfl)) lay_X0 rfl 1 (by decide) fl_X0_21 (fun x hx => hx) (v := .ref (ja 10 4)) rfl dX0_settleRings_4 ?_
      refine jw_size hC hK hW.1 (i := 4) (Or.inl (by decide)) ml_X0_44 hl.1 (Nat.le_of_ble_eq_true rfl) ⟨Nat.le_of_ble_eq_true rfl, Nat.le_of_ble_eq_true rfl, (by show cu ≤ uC E 5; omega), (by show su ≤ 10 * uC E 5; omega)⟩ dX0_settleRings_7 ?_
      refine top_i (y := nI (nR Mi)) rfl ?_
      refine ln_ge (tgt := 89) (a := i) (b := (nR Mi)) hx hb dX0_settleRings_10 (by decide) rfl rfl (by omega) (by omega) (fun c_2t => ?_) (fun c_2f => ?_)
      · subst hQ
        rw [show Mi = itR resS (nR M) M from (by rw [hMi, show i = nR M by omega])] at hW
        exact rt_qv Ei hx hb hr hlk hS (hEi) (fun t ht _ => by show WJ G d0 Rf ja _ _ t.heap; rw [ht]; exact hW) (by show cu ≤ uC E 5; omega) (by show su ≤ 10 * uC E 5; omega) dX0_settleRings_89
      · refine lv_aload_n hx hb dX0_settleRings_13 rfl (lv_at hl 1 rfl) ?_
        refine lv_aload_n hx hb dX0_settleRings_14 rfl (lv_at hl 1 rfl) ?_
        refine r1_get hC hK.1 (hW.ob (show jV Mi 0 0 from rfl)) lay_X0 rfl 1 (by decide) fl_X0_21 (fun x hx => hx) (v := .ref (ja 10 4)) rfl dX0_settleRings_15 ?_
        refine lv_iload_n hx hb dX0_settleRings_18 rfl (lv_at hl 0 rfl) ?_
        refine jw_get hC hK hW.1 (i := 4) (j := i) (Or.inl (by decide)) (show i < jn Mi Ei 4 from (by show i < nR Mi; omega)) ml_X0_48 hl.1 (Nat.le_of_ble_eq_true rfl) ⟨Nat.le_of_ble_eq_true rfl, Nat.le_of_ble_eq_true rfl, (by show cu ≤ uC E 5; omega), (by show su ≤ 10 * uC E 5; omega)⟩ dX0_settleRings_19 ?_
        refine jw_cast hC hK (hW.ob (show jV Mi 5 i from (by show i < nR Mi; omega))) rfl cl_X0_52 dX0_settleRings_22 ?_
        refine jcl_vE (run_V hC (cJ_X0_gatherRing l G d0 mi Rf ja Mi Ei i B (show i < nR Mi from (by show i < nR Mi; omega)) hIi) (As := [.ref (ja 5 i)]) (rest := []) rfl rfl ml_X0_107 im_X0_gatherRing se_X0_gatherRing ini_X0 cd_X0_gatherRing ⟨rfl, na_X0_gatherRing⟩ jB_blind (hW.recv hK (show jV Mi 0 0 from rfl) rfl) (jB_at hX hRf hW hS) hl.1 (Nat.le_of_ble_eq_true rfl) ⟨Nat.le_of_ble_eq_true rfl, Nat.le_of_ble_eq_true rfl⟩ ⟨by show cu + (uC Ei 5) ≤ uC E 5; omega, by show su + (10 * uC Ei 5) ≤ 10 * uC E 5; omega⟩ rfl dX0_settleRings_25) hS (fun E3 hp3 H locs hW hS => ?_)
        obtain ⟨E2_, hE2_⟩ : ∃ z, z = E3 := ⟨_, rfl⟩
        rw [← hE2_] at hW hp3
        have hgr := hp3
        have hg6 := rgN_le Mi i
        refine lv_aload_n hx hb dX0_settleRings_28 rfl (lv_at hl 1 rfl) ?_
        refine r1_get hC hK.1 (hW.ob (show jV Mi 0 0 from rfl)) lay_X0 rfl 6 (by decide) fl_X0_38 (fun x hx => hx) (v := .ref (ja 10 5)) rfl dX0_settleRings_29 ?_
        refine jw_size hC hK hW.1 (i := 5) (Or.inl (by decide)) ml_X0_44 hl.1 (Nat.le_of_ble_eq_true rfl) ⟨Nat.le_of_ble_eq_true rfl, Nat.le_of_ble_eq_true rfl, (by show cu + (uC Ei 5) ≤ uC E 5; omega), (by show su + (10 * uC Ei 5) ≤ 10 * uC E 5; omega)⟩ dX0_settleRings_32 ?_
        refine top_i (y := nI (rgN Mi i)) (congrArg nI hgr.2.1) ?_
        refine lv_iconst (v := 2) hx hb dX0_settleRings_35 (by decide) ?_
        refine ln_le (tgt := 46) (a := (rgN Mi i)) (b := 2) hx hb dX0_settleRings_36 (by decide) rfl rfl (by omega) (by omega) (fun c_4t => ?_) (fun c_4f => ?_)
        · refine lv_aload_n hx hb dX0_settleRings_46 rfl (lv_at hl 1 rfl) ?_
          refine r1_get hC hK.1 (hW.ob (show jV Mi 0 0 from rfl)) lay_X0 rfl 6 (by decide) fl_X0_38 (fun x hx => hx) (v := .ref (ja 10 5)) rfl dX0_settleRings_47 ?_
          refine jw_size hC hK hW.1 (i := 5) (Or.inl (by decide)) ml_X0_44 hl.1 (Nat.le_of_ble_eq_true rfl) ⟨Nat.le_of_ble_eq_true rfl, Nat.le_of_ble_eq_true rfl, (by show cu + (uC Ei 5) ≤ uC E 5; omega), (by show su + (10 * uC Ei 5) ≤ 10 * uC E 5; omega)⟩ dX0_settleRings_50 ?_
          refine top_i (y := nI (rgN Mi i)) (congrArg nI hgr.2.1) ?_
          refine lv_iconst (v := 2) hx hb dX0_settleRings_53 (by decide) ?_
          refine ln_ne (tgt := 83) (a := (rgN Mi i)) (b := 2) hx hb dX0_settleRings_54 (by decide) rfl rfl (by omega) (by omega) (fun c_5t => ?_) (fun c_5f => ?_)
          · refine lv_iinc (v := nI (i + 1)) (lv' := [(1, .int (nI (i + 1))), (0, .ref (ja 0 0))]) hx hb dX0_settleRings_83 hl (k := 0) rfl (nI_inc _) (by decide) rfl (fun ls hl => ?_)
            refine lv_goto (tgt := 2) hx hb dX0_settleRings_86 (by decide) ?_
            have hW : WJ G d0 Rf ja (resS Mi i) E2_ H := by rw [show resS Mi i = Mi from resS_0 (by omega) (by omega)]; exact hW
            exact ih1 (i + 1) (cu + uC Ei 5) (su + 10 * uC Ei 5) (resS Mi i) E2_ H locs (by omega) (by rw [itR_s, ← hMi]) (hEi.tr hgr.1) (by rw [hgr.2.2.2]; omega) (by rw [hgr.2.2.2]; omega) (fun _ => hgr.2.2.2) hW hS ls (by omega) (lv_sub hl [0, 1] rfl)
          · have hg2 : rgN Mi i = 2 := by omega
            have hN2_ : eN E2_ 5 = 2 := by rw [hgr.2.1, hg2]
            obtain ⟨o, ho, hoR, haR, haO, hne⟩ := ring_two (M := Mi) (r := i) (by omega) hg2
            have hro : rgI Mi i 1 = o := by rw [rgI_s]; show (nxtA Mi i).getD i = o; rw [ho]; rfl
            refine lv_aload_n hx hb dX0_settleRings_57 rfl (lv_at hl 1 rfl) ?_
            refine lv_aload_n hx hb dX0_settleRings_58 rfl (lv_at hl 1 rfl) ?_
            refine r1_get hC hK.1 (hW.ob (show jV Mi 0 0 from rfl)) lay_X0 rfl 6 (by decide) fl_X0_38 (fun x hx => hx) (v := .ref (ja 10 5)) rfl dX0_settleRings_59 ?_
            refine lv_iconst (v := 0) hx hb dX0_settleRings_62 (by decide) ?_
            refine jw_get hC hK hW.1 (i := 5) (j := 0) (Or.inl (by decide)) (show 0 < jn Mi E2_ 5 from (by show 0 < eN E2_ 5; omega)) ml_X0_48 hl.1 (Nat.le_of_ble_eq_true rfl) ⟨Nat.le_of_ble_eq_true rfl, Nat.le_of_ble_eq_true rfl, (by show cu + (uC Ei 5) ≤ uC E 5; omega), (by show su + (10 * uC Ei 5) ≤ 10 * uC E 5; omega)⟩ dX0_settleRings_63 ?_
            refine top_r (y := (ja 5 i)) (by show ja 5 (eL E2_ 5 0) = _; rw [hgr.2.2.1 0 (by omega)]; rfl) ?_
            refine jw_cast hC hK (hW.ob (show jV Mi 5 i from (by show i < nR Mi; omega))) rfl cl_X0_52 dX0_settleRings_66 ?_
            refine lv_aload_n hx hb dX0_settleRings_69 rfl (lv_at hl 1 rfl) ?_
            refine r1_get hC hK.1 (hW.ob (show jV Mi 0 0 from rfl)) lay_X0 rfl 6 (by decide) fl_X0_38 (fun x hx => hx) (v := .ref (ja 10 5)) rfl dX0_settleRings_70 ?_
            refine lv_iconst (v := 1) hx hb dX0_settleRings_73 (by decide) ?_
            refine jw_get hC hK hW.1 (i := 5) (j := 1) (Or.inl (by decide)) (show 1 < jn Mi E2_ 5 from (by show 1 < eN E2_ 5; omega)) ml_X0_48 hl.1 (Nat.le_of_ble_eq_true rfl) ⟨Nat.le_of_ble_eq_true rfl, Nat.le_of_ble_eq_true rfl, (by show cu + (uC Ei 5) ≤ uC E 5; omega), (by show su + (10 * uC Ei 5) ≤ 10 * uC E 5; omega)⟩ dX0_settleRings_74 ?_
            refine top_r (y := (ja 5 o)) (by show ja 5 (eL E2_ 5 1) = _; rw [hgr.2.2.1 1 (by omega), hro]) ?_
            refine jw_cast hC hK (hW.ob (show jV Mi 5 o from hoR)) rfl cl_X0_52 dX0_settleRings_77 ?_
            refine jcl_v (run_V hC (cJ_X0_breakRing l G d0 mi Rf ja Mi E2_ i o B (show i < nR Mi from (by show i < nR Mi; omega)) (show o < nR Mi from hoR) hIi (hDi.ofE hgr.1) (asks_way hIi (by omega) haR) (asks_way hIi hoR haO) hne) (As := [.ref (ja 5 i), .ref (ja 5 o)]) (rest := []) rfl rfl ml_X0_114 im_X0_breakRing se_X0_breakRing ini_X0 cd_X0_breakRing ⟨rfl, na_X0_breakRing⟩ jB_blind (hW.recv hK (show jV Mi 0 0 from rfl) rfl) (jB_at hX hRf hW hS) hl.1 (Nat.le_of_ble_eq_true rfl) ⟨Nat.le_of_ble_eq_true rfl, Nat.le_of_ble_eq_true rfl⟩ ⟨by show (cu + (uC Ei 5)) + 0 ≤ uC E 5; omega, by show (su + (10 * uC Ei 5)) + 0 ≤ 10 * uC E 5; omega⟩ rfl dX0_settleRings_80) hS (fun H locs hW hS => ?_)
            refine lv_iinc (v := nI (i + 1)) (lv' := [(1, .int (nI (i + 1))), (0, .ref (ja 0 0))]) hx hb dX0_settleRings_83 hl (k := 0) rfl (nI_inc _) (by decide) rfl (fun ls hl => ?_)
            refine lv_goto (tgt := 2) hx hb dX0_settleRings_86 (by decide) ?_
            have hW : WJ G d0 Rf ja (resS Mi i) E2_ H := by rw [show resS Mi i = (bkM Mi (if abvB Mi i o = true then o else i) (if abvB Mi i o = true then i else o)) from (resS_2 hg2).trans (brk_bk ho)]; exact hW
            exact ih1 (i + 1) (cu + uC Ei 5) (su + 10 * uC Ei 5) (resS Mi i) E2_ H locs (by omega) (by rw [itR_s, ← hMi]) (hEi.tr hgr.1) (by rw [hgr.2.2.2]; omega) (by rw [hgr.2.2.2]; omega) (fun _ => hgr.2.2.2) hW hS ls (by omega) (lv_sub hl [0, 1] rfl)
        · refine lv_aload_n hx hb dX0_settleRings_39 rfl (lv_at hl 1 rfl) ?_
          refine jcl_v (run_V hC (cJ_X0_turnRing l G d0 mi Rf ja Mi E2_ B i hIi (by omega) (by omega) hgr.2.1 hgr.2.2.1) (As := []) (rest := []) rfl rfl ml_X0_111 im_X0_turnRing se_X0_turnRing ini_X0 cd_X0_turnRing ⟨rfl, na_X0_turnRing⟩ jB_blind (hW.recv hK (show jV Mi 0 0 from rfl) rfl) (jB_at hX hRf hW hS) hl.1 (Nat.le_of_ble_eq_true rfl) ⟨Nat.le_of_ble_eq_true rfl, Nat.le_of_ble_eq_true rfl⟩ ⟨by show (cu + (uC Ei 5)) + 0 ≤ uC E 5; omega, by show (su + (10 * uC Ei 5)) + 0 ≤ 10 * uC E 5; omega⟩ rfl dX0_settleRings_40) hS (fun H locs hW hS => ?_)
          refine lv_goto (tgt := 83) hx hb dX0_settleRings_43 (by decide) ?_
          refine lv_iinc (v := nI (i + 1)) (lv' := [(1, .int (nI (i + 1))), (0, .ref (ja 0 0))]) hx hb dX0_settleRings_83 hl (k := 0) rfl (nI_inc _) (by decide) rfl (fun ls hl => ?_)
          refine lv_goto (tgt := 2) hx hb dX0_settleRings_86 (by decide) ?_
          have hW : WJ G d0 Rf ja (resS Mi i) E2_ H := by rw [show resS Mi i = (trnF Mi i) from resS_3 (by omega)]; exact hW
          exact ih1 (i + 1) (cu + uC Ei 5) (su + 10 * uC Ei 5) (resS Mi i) E2_ H locs (by omega) (by rw [itR_s, ← hMi]) (hEi.tr hgr.1) (by rw [hgr.2.2.2]; omega) (by rw [hgr.2.2.2]; omega) (fun _ => hgr.2.2.2) hW hS ls (by omega) (lv_sub hl [0, 1] rfl)
  exact loop1 ((nR M - 0) + 1) 0 0 0 M E H locs (Nat.zero_le _) rfl RK.rf (by omega) (by omega) (fun q => absurd q (Nat.lt_irrefl 0)) hW hS ls (by omega) (lv_sub hl [0, 1] rfl)
