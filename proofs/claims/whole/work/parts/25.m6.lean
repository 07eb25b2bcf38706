/-! THE REFERENCE'S TICK, the rest of its steps; a contract at which the scratch rows stay -/
def mBW (G : gG) (ma : Nat → Nat) (M : MS) : State → Prop := fun U => WM G ma M U.heap ∧ gK G U
theorem mBW_blind {G : gG} {ma : Nat → Nat} {M : MS} {av : List Value} : FrameBlind (va_Pc av (mBW G ma M)) := fun _ _ _ _ h => ⟨h.1, h.2.1, h.2.2.blind⟩
abbrev mQvW (G : gG) (ma : Nat → Nat) (post : MS → Prop) : Array Value → State → Outcome → State → Prop := va_Qv (S := MS) post (fun M' t => WM G ma M' t.heap) (mA ma)
theorem mrW_B {G : gG} {ma : Nat → Nat} {M : MS} {H : Heap} {s : State} (hK : gK G s) (hM : WM G ma M H) : ∀ U : State, U.heap = H → s.WarmedH U.vm → mBW G ma M U := fun U h hW => ⟨by rw [h]; exact hM, hK.warm hW⟩
section CLW
variable {p : Program} {l : Launch} {e : Env} {R : Room} {s : State} {m : MethodId} {args : Array Value} {below : List Frame} {meth : Method} {c : Code} {H : Heap} {locs : List Loc} {cells slots : Nat} {Q : State → Prop}
variable {cc : ByteArray} {pc : Nat} {ls : Array Slot} {rest st0 : List Value}
theorem mcl_vW {G : gG} {ma : Nat → Nat} {A : Nat → Prop} {post : MS → Prop} {a : Array Value} (hr : va_Run p l e R s m args below meth c H locs cells slots 0 0 (F0 m pc ls st0) rest (mQvW G ma post a) (mA ma)) (hS : va_S A s.heap H locs) (hAA : ∀ q, mA ma q → A q)
    (kk : ∀ (M' : MS) (H1 : Heap) (locs1 : List Loc), post M' → WM G ma M' H1 → va_S A s.heap H1 locs1 → W p l e R s m args below meth c H1 locs1 cells slots Q (F0 m (pc + 3) ls rest)) : W p l e R s m args below meth c H locs cells slots Q (F0 m pc ls st0) :=
  va_callv hr hS (fun q _ h => hAA q h) hAA (fun u t H1 locs1 ht _ hp hB _ _ hS1 => kk u H1 locs1 hp (by rw [← ht]; exact hB) hS1)
theorem rt_mvW {G : gG} {ma : Nat → Nat} {M : MS} {post : MS → Prop} (hx : p.tables.exec = Jvm.exec) (hb : c.code = cc) (hr : meth.sig.returnType = none) (hlk : meth.locks = false) (hM : WM G ma M H) (hS : va_S (mA ma) s.heap H locs) (h : post M) (hdg : decode cc pc = .ok (.return_, 1)) : W p l e R s m args below meth c H locs cells slots (MQ below (mQvW G ma post) args s cells slots (mA ma)) (F0 m pc ls []) :=
  W.vret hx hb hr (fun t ht _ => ⟨⟨M, rfl, h, by show WM G ma M t.heap; rw [ht]; exact hM⟩, hS.F ht⟩) hS.2.2 hdg hlk
end CLW
theorem mvF_cg {A B : MS} {r : Nat} {x : Int32} (h : ∀ k, scr k = false → k < 40 → A k = B k) : ∀ k, scr k = false → k < 40 → mvF A r x k = mvF B r x k := by
  intro k a b
  unfold mvF
  rw [h 28 rfl (by decide)]
  exact mset_sc (mset_sc (mset_sc (mset_sc h))) k a b
theorem rbA_cg {A B : MS} (h : ∀ k, scr k = false → k < 40 → A k = B k) (x : Int32) : rbA A x = rbA B x := by
  unfold rbA nR
  rw [h 17 rfl (by decide), h 18 rfl (by decide)]
theorem nxtA_cg {A B : MS} (h : ∀ k, scr k = false → k < 40 → A k = B k) (r : Nat) : nxtA A r = nxtA B r := by
  unfold nxtA
  rw [h 24 rfl (by decide), rbA_cg h]
theorem abvB_cg {A B : MS} (h : ∀ k, scr k = false → k < 40 → A k = B k) (a b : Nat) : abvB A a b = abvB B a b := by
  unfold abvB
  rw [h 19 rfl (by decide)]
theorem trn_fin {M M3 : MS} {r n : Nat} (h : ∀ k, scr k = false → k < 40 → M3 k = trnGo M (rgM M r) n k) (hn : n = nR M) : ∀ k, scr k = false → k < 40 → mset M3 29 0 (M3 29 0 + 1) k = trnF M r k := by
  subst hn
  unfold trnF
  rw [show M 29 0 = M3 29 0 by rw [h 29 rfl (by decide), trn_row (by decide) (by decide) (by decide) (by decide)]]
  exact mset_sc h
theorem itR_s (f : MS → Nat → MS) (n : Nat) (M : MS) : itR f (n + 1) M = f (itR f n M) n := rfl
theorem fsW_s (f : Nat → Option Nat) (j : Nat) : fsW f (j + 1) = match f (3 - j) with
    | some x => some x
    | none => fsW f j := rfl
theorem selG_t {M : MS} {dn : Nat → Bool} {k : Nat} {b : Option Nat} (hb : b = selG M dn k) (h : dn k = false) (h2 : ahdB M k b = true) : selG M dn (k + 1) = some k := by rw [selG, ← hb, if_pos ⟨h, h2⟩]
theorem selG_d {M : MS} {dn : Nat → Bool} {k : Nat} {b : Option Nat} (hb : b = selG M dn k) (h : dn k = true) : selG M dn (k + 1) = b := by rw [selG, ← hb, if_neg (fun q => by rw [h] at q; cases q.1)]
theorem selG_n {M : MS} {dn : Nat → Bool} {k : Nat} {b : Option Nat} (hb : b = selG M dn k) (h : ahdB M k b = false) : selG M dn (k + 1) = b := by rw [selG, ← hb, if_neg (fun q => by rw [h] at q; cases q.2)]
theorem goGo_none {M Mt : MS} {dn : Nat → Bool} {t : Nat} (hg : goGo M t = (Mt, dn)) (hs : selG Mt dn (nR M) = none) : goGo M (t + 1) = (Mt, dn) := by rw [goGo, hg]; simp only [hs]
theorem goGo_mv {M Mt : MS} {dn : Nat → Bool} {t f : Nat} (hg : goGo M t = (Mt, dn)) (hs : selG Mt dn (nR M) = some f) (hr : rbA Mt (Mt 24 f) = none) : goGo M (t + 1) = (mvF Mt f (Mt 24 f), fun k => if k = f then true else dn k) := by rw [goGo, hg]; simp only [hs, hr, if_true]
theorem goGo_st {M Mt : MS} {dn : Nat → Bool} {t f k : Nat} (hg : goGo M t = (Mt, dn)) (hs : selG Mt dn (nR M) = some f) (hr : rbA Mt (Mt 24 f) = some k) : goGo M (t + 1) = (Mt, fun k => if k = f then true else dn k) := by rw [goGo, hg]; simp only [hs, hr, if_false, reduceCtorEq]
set_option maxHeartbeats 4000000 in
set_option maxRecDepth 100000 in
theorem c9W_moves (l : Launch) (G : gG) (ma : Nat → Nat) (M : MS) (r : Nat) (x : Int32) (hI : mI ma) (hr6 : r < 6) : Met l yX9_moves (wB yX9_moves cX9_moves 3 none) (rmL 0 0 0) (va_Pc [.ref (ma 0), .int (nI r), .int x] (mBW G ma M)) (mQvW G ma (fun M' => M' = mvF M r x)) 0 0 (mA ma) := by
  refine st_N (own := RX9) (by decide +kernel) rfl (Nat.le_of_ble_eq_true rfl) ?_
  intro p e s m below meth c ls args Q hQ hC hr hlk hnm hl hP
  obtain ⟨hM, hK⟩ := hP
  have hx := hC.1
  have hb := hC.2.1
  have hl : lv_has ls 3 [(0, .ref (ma 0)), (1, .int (nI r)), (2, .int x)] := hl
  have hS : va_S (mA ma) s.heap s.heap [] := va_S.rf
  obtain ⟨H, locs, hHe, hLe⟩ : ∃ (H : Heap) (locs : List Loc), H = s.heap ∧ locs = [] := ⟨_, _, rfl, rfl⟩
  rw [← hHe] at hM
  have hS : va_S (mA ma) s.heap H locs := by rw [hHe, hLe]; exact va_S.rf
  suffices hgo : W p l e (rmL 0 0 0) s m args below meth c H locs 0 0 Q (F0 m 0 ls []) by
    rw [hHe, hLe] at hgo
    exact hgo
  clear hHe hLe
  refine lv_aload_n hx hb dX9_moves_0 rfl (lv_at hl 0 rfl) ?_
  refine mr_get hC hK hM 18 (by decide) fl_X9_44 rfl (v := .ref (ma 18)) rfl dX9_moves_1 ?_
  refine lv_iload_n hx hb dX9_moves_4 rfl (lv_at hl 1 rfl) ?_
  refine lv_iload_n hx hb dX9_moves_5 rfl (lv_at hl 2 rfl) ?_
  refine mr_ist hC hK hI hM hS 18 (mA_k (by decide)) (i := r) (show r < 6 from by omega) rfl dX9_moves_6 (fun H locs hM hS => ?_)
  refine lv_aload_n hx hb dX9_moves_7 rfl (lv_at hl 0 rfl) ?_
  refine mr_get hC hK hM 24 (by decide) fl_X9_62 rfl (v := .ref (ma 24)) rfl dX9_moves_8 ?_
  refine lv_iload_n hx hb dX9_moves_11 rfl (lv_at hl 1 rfl) ?_
  refine lv_iconst (v := (-1)) hx hb dX9_moves_12 (by decide) ?_
  refine mr_ist hC hK hI hM hS 24 (mA_k (by decide)) (i := r) (show r < 6 from by omega) rfl dX9_moves_13 (fun H locs hM hS => ?_)
  refine lv_aload_n hx hb dX9_moves_14 rfl (lv_at hl 0 rfl) ?_
  refine mr_get hC hK hM 23 (by decide) fl_X9_59 rfl (v := .ref (ma 23)) rfl dX9_moves_15 ?_
  refine lv_iload_n hx hb dX9_moves_18 rfl (lv_at hl 1 rfl) ?_
  refine lv_iconst (v := (-1)) hx hb dX9_moves_19 (by decide) ?_
  refine mr_ist hC hK hI hM hS 23 (mA_k (by decide)) (i := r) (show r < 6 from by omega) rfl dX9_moves_20 (fun H locs hM hS => ?_)
  refine lv_aload_n hx hb dX9_moves_21 rfl (lv_at hl 0 rfl) ?_
  refine lv_dup hx hb dX9_moves_22 rfl ?_
  refine mr_get hC hK hM 28 (by decide) fl_X9_189 rfl (v := .int (M 28 0)) rfl dX9_moves_23 ?_
  refine lv_iconst (v := 1) hx hb dX9_moves_26 (by decide) ?_
  refine lv_iadd hx hb dX9_moves_27 ?_
  refine mr_put hC hK hI hM hS mA_0 28 (by decide) rfl fl_X9_189 rfl rfl rfl dX9_moves_28 (fun H locs hM hS => ?_)
  subst hQ
  exact rt_mvW hx hb hr hlk hM hS  (rfl) dX9_moves_31
set_option maxHeartbeats 4000000 in
set_option maxRecDepth 100000 in
theorem c9_stepsAside (l : Launch) (G : gG) (ma : Nat → Nat) (M : MS) (D : mD) (r : Nat) (hI : mI ma) (hcnt : CNT M) (hr6 : r < 6) (hcell : isC (M 18 r)) : Met l yX9_stepsAside (wB yX9_stepsAside cX9_stepsAside 6 none) (rmL 2 0 0) (va_Pc [.ref (ma 0), .int (nI r)] (mB G ma M D)) (mQv G ma none (fun M' => M' = asdF M r)) 0 0 (mA ma) := by
  refine st_N (own := RX9) (by decide +kernel) rfl (Nat.le_of_ble_eq_true rfl) ?_
  intro p e s m below meth c ls args Q hQ hC hr hlk hnm hl hP
  obtain ⟨hM, hK⟩ := hP
  have hx := hC.1
  have hb := hC.2.1
  have hl : lv_has ls 6 [(0, .ref (ma 0)), (1, .int (nI r))] := hl
  have hS : va_S (mA ma) s.heap s.heap [] := va_S.rf
  obtain ⟨H, locs, hHe, hLe⟩ : ∃ (H : Heap) (locs : List Loc), H = s.heap ∧ locs = [] := ⟨_, _, rfl, rfl⟩
  rw [← hHe] at hM
  have hS : va_S (mA ma) s.heap H locs := by rw [hHe, hLe]; exact va_S.rf
  suffices hgo : W p l e (rmL 2 0 0) s m args below meth c H locs 0 0 Q (F0 m 0 ls []) by
    rw [hHe, hLe] at hgo
    exact hgo
  clear hHe hLe
  have h6 := hcnt.R6
  obtain ⟨jc, hjc64, hjc⟩ := hcell
  have hxc := ix_nI (n := jc) (by omega)
  refine lv_iconst (v := (-1)) hx hb dX9_stepsAside_0 (by decide) ?_
  refine lv_istore_n (lv' := [(2, .int (-1)), (0, .ref (ma 0)), (1, .int (nI r))]) hx hb dX9_stepsAside_1 rfl hl (by decide) rfl (fun ls hl => ?_)
  refine lv_iconst (v := 3) hx hb dX9_stepsAside_2 (by decide) ?_
  refine lv_istore_n (lv' := [(3, .int 3), (2, .int (-1)), (0, .ref (ma 0)), (1, .int (nI r))]) hx hb dX9_stepsAside_3 rfl hl (by decide) rfl (fun ls hl => ?_)
  have loop1 : ∀ (n_ : Nat) (j : Nat) (ls : Array Slot) (hj : j ≤ 4), 4 - j < n_ → lv_has ls 6 [(2, .int (oI (fsW (asdf M jc) j))), (3, .int (wlI j)), (0, .ref (ma 0)), (1, .int (nI r))] → W p l e (rmL 2 0 0) s m args below meth c H locs 0 0 Q (F0 m 4 ls []) := by
    intro n_
    induction n_ with
    | zero => intro j ls hj hm hl; omega
    | succ n_ ih1 =>
      intro j ls hj hm hl
      rcases Nat.lt_or_ge j 4 with hj4 | hj4
      · have hl : lv_has ls 6 [(2, .int (oI (fsW (asdf M jc) j))), (3, .int (nI (3 - j))), (0, .ref (ma 0)), (1, .int (nI r))] := by rw [wlI_lt hj4] at hl; exact hl
        refine lv_iload_n hx hb dX9_stepsAside_4 rfl (lv_at hl 1 rfl) ?_
        refine lv_if_lt (tgt := 79) hx hb dX9_stepsAside_5 (by decide) (fun c => absurd c (nI_pos (by omega))) (fun _ => ?_)
        refine lv_aload_n hx hb dX9_stepsAside_8 rfl (lv_at hl 2 rfl) ?_
        refine ms_get hC hK hM 18 (by decide) fl_X9_44 rfl (v := .ref (ma 18)) rfl (fun q => rfl) dX9_stepsAside_9 ?_
        refine lv_iload_n hx hb dX9_stepsAside_12 rfl (lv_at hl 3 rfl) ?_
        refine ms_ild hC hK hM 18 (i := r) (show r < 6 from by omega) (by decide) rfl rfl (v := nI jc) hjc dX9_stepsAside_13 ?_
        refine lv_iload_n hx hb dX9_stepsAside_14 rfl (lv_at hl 1 rfl) ?_
        refine cl_p (run_S hC (c9_neighbour l jc (3 - j) (by omega) (by omega)) (As := [.int (nI jc), .int (nI (3 - j))]) (rest := []) rfl rfl ml_X9_120 sm_X9_neighbour ini_X9 cd_X9_neighbour na_X9_neighbour tB_blind (fun _ _ _ => trivial) hl.1 (Nat.le_of_ble_eq_true rfl) ⟨Nat.le_of_ble_eq_true rfl, Nat.le_of_ble_eq_true rfl⟩ ⟨Nat.le_refl _, Nat.le_refl _⟩ rfl dX9_stepsAside_15) ?_
        rcases ho3 : nbr jc (3 - j) with _ | k3
        · refine top_i (y := -1) rfl ?_
          refine lv_istore (lv' := [(4, .int (-1)), (2, .int (oI (fsW (asdf M jc) j))), (3, .int (nI (3 - j))), (0, .ref (ma 0)), (1, .int (nI r))]) hx hb dX9_stepsAside_18 hl (by decide) rfl (fun ls hl => ?_)
          refine lv_iload hx hb dX9_stepsAside_20 (lv_at hl 0 rfl) ?_
          refine lv_iconst (v := (-1)) hx hb dX9_stepsAside_22 (by decide) ?_
          refine lv_icmp_eq (tgt := 58) hx hb dX9_stepsAside_23 (by decide) (fun _ => ?_) (fun c => absurd c (by decide))
          refine lv_iconst (v := 0) hx hb dX9_stepsAside_58 (by decide) ?_
          refine lv_istore (lv' := [(5, .int 0), (4, .int (-1)), (2, .int (oI (fsW (asdf M jc) j))), (3, .int (nI (3 - j))), (0, .ref (ma 0)), (1, .int (nI r))]) hx hb dX9_stepsAside_59 hl (by decide) rfl (fun ls hl => ?_)
          refine lv_iload hx hb dX9_stepsAside_61 (lv_at hl 0 rfl) ?_
          refine lv_if_eq (tgt := 71) hx hb dX9_stepsAside_63 (by decide) (fun _ => ?_) (fun c => absurd c (by decide))
          refine lv_iload_n hx hb dX9_stepsAside_71 rfl (lv_at hl 2 rfl) ?_
          refine lv_istore_n (lv' := [(2, .int (oI (fsW (asdf M jc) j))), (5, .int 0), (4, .int (-1)), (3, .int (nI (3 - j))), (0, .ref (ma 0)), (1, .int (nI r))]) hx hb dX9_stepsAside_72 rfl hl (by decide) rfl (fun ls hl => ?_)
          have hsum : oI (fsW (asdf M jc) (j + 1)) = oI (fsW (asdf M jc) j) := by simp [fsW_s, asdf, oI, ho3]
          have hl : lv_has ls 6 [(2, .int (oI (fsW (asdf M jc) (j + 1)))), (5, .int 0), (4, .int (-1)), (3, .int (nI (3 - j))), (0, .ref (ma 0)), (1, .int (nI r))] := by rw [hsum]; exact hl
          refine lv_iinc (v := wlI (j + 1)) (lv' := [(3, .int (wlI (j + 1))), (2, .int (oI (fsW (asdf M jc) (j + 1)))), (5, .int 0), (4, .int (-1)), (0, .ref (ma 0)), (1, .int (nI r))]) hx hb dX9_stepsAside_73 hl (k := 3) rfl (wlI_dec hj4) (by decide) rfl (fun ls hl => ?_)
          refine lv_goto (tgt := 4) hx hb dX9_stepsAside_76 (by decide) ?_
          exact ih1 (j + 1) ls (by omega) (by omega) (lv_sub hl [1, 0, 4, 5] rfl)
        · refine top_i (y := nI k3) rfl ?_
          have hlt_k3 := nbr_lt _ hjc64 _ (by omega) _ ho3
          refine lv_istore (lv' := [(4, .int (nI k3)), (2, .int (oI (fsW (asdf M jc) j))), (3, .int (nI (3 - j))), (0, .ref (ma 0)), (1, .int (nI r))]) hx hb dX9_stepsAside_18 hl (by decide) rfl (fun ls hl => ?_)
          refine lv_iload hx hb dX9_stepsAside_20 (lv_at hl 0 rfl) ?_
          refine lv_iconst (v := (-1)) hx hb dX9_stepsAside_22 (by decide) ?_
          refine lv_icmp_eq (tgt := 58) hx hb dX9_stepsAside_23 (by decide) (fun c => absurd c (nI_m1 (by omega))) (fun _ => ?_)
          refine lv_aload_n hx hb dX9_stepsAside_26 rfl (lv_at hl 3 rfl) ?_
          refine lv_iload hx hb dX9_stepsAside_27 (lv_at hl 0 rfl) ?_
          refine cl_p (run_V hC (c9_isOpen l G ma M D k3 hcnt (by omega)) (As := [.int (nI k3)]) (rest := []) rfl rfl ml_X9_116 im_X9_isOpen se_X9_isOpen ini_X9 cd_X9_isOpen ⟨rfl, na_X9_isOpen⟩ mB_blind (mr_recv hK hM) (mr_B hK hM) hl.1 (Nat.le_of_ble_eq_true rfl) ⟨Nat.le_of_ble_eq_true rfl, Nat.le_of_ble_eq_true rfl⟩ ⟨Nat.le_refl _, Nat.le_refl _⟩ rfl dX9_stepsAside_29) ?_
          refine lb_eq (tgt := 58) (b := (opnB M k3)) hx hb dX9_stepsAside_32 (by decide) (fun c_7t => ?_) (fun c_7f => ?_)
          · refine lv_iconst (v := 0) hx hb dX9_stepsAside_58 (by decide) ?_
            refine lv_istore (lv' := [(5, .int 0), (4, .int (nI k3)), (2, .int (oI (fsW (asdf M jc) j))), (3, .int (nI (3 - j))), (0, .ref (ma 0)), (1, .int (nI r))]) hx hb dX9_stepsAside_59 hl (by decide) rfl (fun ls hl => ?_)
            refine lv_iload hx hb dX9_stepsAside_61 (lv_at hl 0 rfl) ?_
            refine lv_if_eq (tgt := 71) hx hb dX9_stepsAside_63 (by decide) (fun _ => ?_) (fun c => absurd c (by decide))
            refine lv_iload_n hx hb dX9_stepsAside_71 rfl (lv_at hl 2 rfl) ?_
            refine lv_istore_n (lv' := [(2, .int (oI (fsW (asdf M jc) j))), (5, .int 0), (4, .int (nI k3)), (3, .int (nI (3 - j))), (0, .ref (ma 0)), (1, .int (nI r))]) hx hb dX9_stepsAside_72 rfl hl (by decide) rfl (fun ls hl => ?_)
            have hsum : oI (fsW (asdf M jc) (j + 1)) = oI (fsW (asdf M jc) j) := by simp [fsW_s, asdf, oI, ho3, c_7t]
            have hl : lv_has ls 6 [(2, .int (oI (fsW (asdf M jc) (j + 1)))), (5, .int 0), (4, .int (nI k3)), (3, .int (nI (3 - j))), (0, .ref (ma 0)), (1, .int (nI r))] := by rw [hsum]; exact hl
            refine lv_iinc (v := wlI (j + 1)) (lv' := [(3, .int (wlI (j + 1))), (2, .int (oI (fsW (asdf M jc) (j + 1)))), (5, .int 0), (4, .int (nI k3)), (0, .ref (ma 0)), (1, .int (nI r))]) hx hb dX9_stepsAside_73 hl (k := 3) rfl (wlI_dec hj4) (by decide) rfl (fun ls hl => ?_)
            refine lv_goto (tgt := 4) hx hb dX9_stepsAside_76 (by decide) ?_
            exact ih1 (j + 1) ls (by omega) (by omega) (lv_sub hl [1, 0, 4, 5] rfl)
          · refine lv_aload_n hx hb dX9_stepsAside_35 rfl (lv_at hl 3 rfl) ?_
            refine lv_iload hx hb dX9_stepsAside_36 (lv_at hl 0 rfl) ?_
            refine cl_p (run_V hC (c9_robotAt l G ma M D (nI k3) hcnt) (As := [.int (nI k3)]) (rest := []) rfl rfl ml_X9_112 im_X9_robotAt se_X9_robotAt ini_X9 cd_X9_robotAt ⟨rfl, na_X9_robotAt⟩ mB_blind (mr_recv hK hM) (mr_B hK hM) hl.1 (Nat.le_of_ble_eq_true rfl) ⟨Nat.le_of_ble_eq_true rfl, Nat.le_of_ble_eq_true rfl⟩ ⟨Nat.le_refl _, Nat.le_refl _⟩ rfl dX9_stepsAside_38) ?_
            rcases ho9 : rbA M (nI k3) with _ | k9
            · refine top_i (y := -1) rfl ?_
              refine lv_iconst (v := (-1)) hx hb dX9_stepsAside_41 (by decide) ?_
              refine lv_icmp_ne (tgt := 58) hx hb dX9_stepsAside_42 (by decide) (fun c => absurd c (by decide)) (fun _ => ?_)
              refine lv_aload_n hx hb dX9_stepsAside_45 rfl (lv_at hl 3 rfl) ?_
              refine lv_iload hx hb dX9_stepsAside_46 (lv_at hl 0 rfl) ?_
              refine cl_p (run_V hC (c9_isAsked l G ma M D (nI k3) hcnt) (As := [.int (nI k3)]) (rest := []) rfl rfl ml_X9_220 im_X9_isAsked se_X9_isAsked ini_X9 cd_X9_isAsked ⟨rfl, na_X9_isAsked⟩ mB_blind (mr_recv hK hM) (mr_B hK hM) hl.1 (Nat.le_of_ble_eq_true rfl) ⟨Nat.le_of_ble_eq_true rfl, Nat.le_of_ble_eq_true rfl⟩ ⟨Nat.le_refl _, Nat.le_refl _⟩ rfl dX9_stepsAside_48) ?_
              refine lb_ne (tgt := 58) (b := (askdB M (nI k3))) hx hb dX9_stepsAside_51 (by decide) (fun c_11t => ?_) (fun c_11f => ?_)
              · refine lv_iconst (v := 0) hx hb dX9_stepsAside_58 (by decide) ?_
                refine lv_istore (lv' := [(5, .int 0), (4, .int (nI k3)), (2, .int (oI (fsW (asdf M jc) j))), (3, .int (nI (3 - j))), (0, .ref (ma 0)), (1, .int (nI r))]) hx hb dX9_stepsAside_59 hl (by decide) rfl (fun ls hl => ?_)
                refine lv_iload hx hb dX9_stepsAside_61 (lv_at hl 0 rfl) ?_
                refine lv_if_eq (tgt := 71) hx hb dX9_stepsAside_63 (by decide) (fun _ => ?_) (fun c => absurd c (by decide))
                refine lv_iload_n hx hb dX9_stepsAside_71 rfl (lv_at hl 2 rfl) ?_
                refine lv_istore_n (lv' := [(2, .int (oI (fsW (asdf M jc) j))), (5, .int 0), (4, .int (nI k3)), (3, .int (nI (3 - j))), (0, .ref (ma 0)), (1, .int (nI r))]) hx hb dX9_stepsAside_72 rfl hl (by decide) rfl (fun ls hl => ?_)
                have hsum : oI (fsW (asdf M jc) (j + 1)) = oI (fsW (asdf M jc) j) := by simp [fsW_s, asdf, oI, ho3, c_7f, ho9, c_11t]
                have hl : lv_has ls 6 [(2, .int (oI (fsW (asdf M jc) (j + 1)))), (5, .int 0), (4, .int (nI k3)), (3, .int (nI (3 - j))), (0, .ref (ma 0)), (1, .int (nI r))] := by rw [hsum]; exact hl
                refine lv_iinc (v := wlI (j + 1)) (lv' := [(3, .int (wlI (j + 1))), (2, .int (oI (fsW (asdf M jc) (j + 1)))), (5, .int 0), (4, .int (nI k3)), (0, .ref (ma 0)), (1, .int (nI r))]) hx hb dX9_stepsAside_73 hl (k := 3) rfl (wlI_dec hj4) (by decide) rfl (fun ls hl => ?_)
                refine lv_goto (tgt := 4) hx hb dX9_stepsAside_76 (by decide) ?_
                exact ih1 (j + 1) ls (by omega) (by omega) (lv_sub hl [1, 0, 4, 5] rfl)
              · refine lv_iconst (v := 1) hx hb dX9_stepsAside_54 (by decide) ?_
                refine lv_goto (tgt := 59) hx hb dX9_stepsAside_55 (by decide) ?_
                refine lv_istore (lv' := [(5, .int 1), (4, .int (nI k3)), (2, .int (oI (fsW (asdf M jc) j))), (3, .int (nI (3 - j))), (0, .ref (ma 0)), (1, .int (nI r))]) hx hb dX9_stepsAside_59 hl (by decide) rfl (fun ls hl => ?_)
                refine lv_iload hx hb dX9_stepsAside_61 (lv_at hl 0 rfl) ?_
                refine lv_if_eq (tgt := 71) hx hb dX9_stepsAside_63 (by decide) (fun c => absurd c (by decide)) (fun _ => ?_)
                refine lv_iload hx hb dX9_stepsAside_66 (lv_at hl 1 rfl) ?_
                refine lv_goto (tgt := 72) hx hb dX9_stepsAside_68 (by decide) ?_
                refine lv_istore_n (lv' := [(2, .int (nI k3)), (5, .int 1), (4, .int (nI k3)), (3, .int (nI (3 - j))), (0, .ref (ma 0)), (1, .int (nI r))]) hx hb dX9_stepsAside_72 rfl hl (by decide) rfl (fun ls hl => ?_)
                have hsum : oI (fsW (asdf M jc) (j + 1)) = nI k3 := by simp [fsW_s, asdf, oI, ho3, c_7f, ho9, c_11f]
                have hl : lv_has ls 6 [(2, .int (oI (fsW (asdf M jc) (j + 1)))), (5, .int 1), (4, .int (nI k3)), (3, .int (nI (3 - j))), (0, .ref (ma 0)), (1, .int (nI r))] := by rw [hsum]; exact hl
                refine lv_iinc (v := wlI (j + 1)) (lv' := [(3, .int (wlI (j + 1))), (2, .int (oI (fsW (asdf M jc) (j + 1)))), (5, .int 1), (4, .int (nI k3)), (0, .ref (ma 0)), (1, .int (nI r))]) hx hb dX9_stepsAside_73 hl (k := 3) rfl (wlI_dec hj4) (by decide) rfl (fun ls hl => ?_)
                refine lv_goto (tgt := 4) hx hb dX9_stepsAside_76 (by decide) ?_
                exact ih1 (j + 1) ls (by omega) (by omega) (lv_sub hl [1, 0, 4, 5] rfl)
            · refine top_i (y := nI k9) rfl ?_
              have hlt_k9 := (lastE_lt ho9).1
              refine lv_iconst (v := (-1)) hx hb dX9_stepsAside_41 (by decide) ?_
              refine lv_icmp_ne (tgt := 58) hx hb dX9_stepsAside_42 (by decide) (fun _ => ?_) (fun c => absurd c (nI_m1 (by omega)))
              refine lv_iconst (v := 0) hx hb dX9_stepsAside_58 (by decide) ?_
              refine lv_istore (lv' := [(5, .int 0), (4, .int (nI k3)), (2, .int (oI (fsW (asdf M jc) j))), (3, .int (nI (3 - j))), (0, .ref (ma 0)), (1, .int (nI r))]) hx hb dX9_stepsAside_59 hl (by decide) rfl (fun ls hl => ?_)
              refine lv_iload hx hb dX9_stepsAside_61 (lv_at hl 0 rfl) ?_
              refine lv_if_eq (tgt := 71) hx hb dX9_stepsAside_63 (by decide) (fun _ => ?_) (fun c => absurd c (by decide))
              refine lv_iload_n hx hb dX9_stepsAside_71 rfl (lv_at hl 2 rfl) ?_
              refine lv_istore_n (lv' := [(2, .int (oI (fsW (asdf M jc) j))), (5, .int 0), (4, .int (nI k3)), (3, .int (nI (3 - j))), (0, .ref (ma 0)), (1, .int (nI r))]) hx hb dX9_stepsAside_72 rfl hl (by decide) rfl (fun ls hl => ?_)
              have hsum : oI (fsW (asdf M jc) (j + 1)) = oI (fsW (asdf M jc) j) := by simp [fsW_s, asdf, oI, ho3, c_7f, ho9]
              have hl : lv_has ls 6 [(2, .int (oI (fsW (asdf M jc) (j + 1)))), (5, .int 0), (4, .int (nI k3)), (3, .int (nI (3 - j))), (0, .ref (ma 0)), (1, .int (nI r))] := by rw [hsum]; exact hl
              refine lv_iinc (v := wlI (j + 1)) (lv' := [(3, .int (wlI (j + 1))), (2, .int (oI (fsW (asdf M jc) (j + 1)))), (5, .int 0), (4, .int (nI k3)), (0, .ref (ma 0)), (1, .int (nI r))]) hx hb dX9_stepsAside_73 hl (k := 3) rfl (wlI_dec hj4) (by decide) rfl (fun ls hl => ?_)
              refine lv_goto (tgt := 4) hx hb dX9_stepsAside_76 (by decide) ?_
              exact ih1 (j + 1) ls (by omega) (by omega) (lv_sub hl [1, 0, 4, 5] rfl)
      · have hl : lv_has ls 6 [(2, .int (oI (fsW (asdf M jc) j))), (3, .int (-1)), (0, .ref (ma 0)), (1, .int (nI r))] := by rw [wlI_4 (show j = 4 by omega)] at hl; exact hl
        have hj40 : j = 4 := by omega
        refine lv_iload_n hx hb dX9_stepsAside_4 rfl (lv_at hl 1 rfl) ?_
        refine lv_if_lt (tgt := 79) hx hb dX9_stepsAside_5 (by decide) (fun _ => ?_) (fun c => absurd c (by decide))
        rw [hj40] at hl
        rcases hq17 : fsW (asdf M jc) 4 with _ | p17
        · have hl : lv_has ls 6 [(2, .int (-1)), (3, .int (-1)), (0, .ref (ma 0)), (1, .int (nI r))] := by rw [hq17] at hl; exact hl
          refine lv_iload_n hx hb dX9_stepsAside_79 rfl (lv_at hl 0 rfl) ?_
          refine lv_iconst (v := (-1)) hx hb dX9_stepsAside_80 (by decide) ?_
          refine lv_icmp_eq (tgt := 90) hx hb dX9_stepsAside_81 (by decide) (fun _ => ?_) (fun c => absurd c (by decide))
          subst hQ
          exact rt_mv hx hb hr hlk hM.none hS  (by rw [asdF, hjc, hxc, hq17]) dX9_stepsAside_90
        · have hl : lv_has ls 6 [(2, .int (nI p17)), (3, .int (-1)), (0, .ref (ma 0)), (1, .int (nI r))] := by rw [hq17] at hl; exact hl
          obtain ⟨w9, hw9, hq9⟩ := fsW_in hq17
          have hq64 := (asdf_in hjc64 hw9 hq9).1
          refine lv_iload_n hx hb dX9_stepsAside_79 rfl (lv_at hl 0 rfl) ?_
          refine lv_iconst (v := (-1)) hx hb dX9_stepsAside_80 (by decide) ?_
          refine lv_icmp_eq (tgt := 90) hx hb dX9_stepsAside_81 (by decide) (fun c => absurd c (nI_m1 (by omega))) (fun _ => ?_)
          refine lv_aload_n hx hb dX9_stepsAside_84 rfl (lv_at hl 2 rfl) ?_
          refine lv_iload_n hx hb dX9_stepsAside_85 rfl (lv_at hl 3 rfl) ?_
          refine lv_iload_n hx hb dX9_stepsAside_86 rfl (lv_at hl 0 rfl) ?_
          refine mcl_v (run_V hC (c9_moves l G ma M D r (nI p17) hI (by omega)) (As := [.int (nI r), .int (nI p17)]) (rest := []) rfl rfl ml_X9_198 im_X9_moves se_X9_moves ini_X9 cd_X9_moves ⟨rfl, na_X9_moves⟩ mB_blind (mr_recv hK hM) (mr_B hK hM) hl.1 (Nat.le_of_ble_eq_true rfl) ⟨Nat.le_of_ble_eq_true rfl, Nat.le_of_ble_eq_true rfl⟩ ⟨Nat.le_refl _, Nat.le_refl _⟩ rfl dX9_stepsAside_87) hS (fun _ h => h) (fun M20 H locs hp20 hM hS => ?_)
          rw [hp20] at hM
          subst hQ
          exact rt_mv hx hb hr hlk hM.none hS  (by rw [asdF, hjc, hxc, hq17]) dX9_stepsAside_90
  exact loop1 ((4 - 0) + 1) 0 ls (by omega) (by omega) (lv_sub hl [1, 0, 2, 3] rfl)
set_option maxHeartbeats 4000000 in
set_option maxRecDepth 100000 in
theorem c9_turns (l : Launch) (G : gG) (ma : Nat → Nat) (M : MS) (D : mD) (r : Nat) (hI : mI ma) (hcnt : CNT M) (hrN : r < nR M) (hn0 : 0 < rgN M r) : Met l yX9_turns (wB yX9_turns cX9_turns 4 none) (rmL 3 0 0) (va_Pc [.ref (ma 0), .int (nI r)] (mB G ma M D)) (mQv G ma none (fun M' => M' = trnF M r)) 0 0 (mA ma) := by
  refine st_N (own := RX9) (by decide +kernel) rfl (Nat.le_of_ble_eq_true rfl) ?_
  intro p e s m below meth c ls args Q hQ hC hr hlk hnm hl hP
  obtain ⟨hM, hK⟩ := hP
  have hx := hC.1
  have hb := hC.2.1
  have hl : lv_has ls 4 [(0, .ref (ma 0)), (1, .int (nI r))] := hl
  have hS : va_S (mA ma) s.heap s.heap [] := va_S.rf
  obtain ⟨H, locs, hHe, hLe⟩ : ∃ (H : Heap) (locs : List Loc), H = s.heap ∧ locs = [] := ⟨_, _, rfl, rfl⟩
  rw [← hHe] at hM
  have hS : va_S (mA ma) s.heap H locs := by rw [hHe, hLe]; exact va_S.rf
  suffices hgo : W p l e (rmL 3 0 0) s m args below meth c H locs 0 0 Q (F0 m 0 ls []) by
    rw [hHe, hLe] at hgo
    exact hgo
  clear hHe hLe
  have h6 := hcnt.R6
  obtain ⟨M0, hs, -, hM⟩ := hM
  obtain ⟨b1, b2, b3, b4, b5⟩ := ring_spec hn0
  refine lv_iload_n hx hb dX9_turns_0 rfl (lv_at hl 1 rfl) ?_
  refine lv_istore_n (lv' := [(2, .int (nI r)), (0, .ref (ma 0)), (1, .int (nI r))]) hx hb dX9_turns_1 rfl hl (by decide) rfl (fun ls hl => ?_)
  refine lv_iconst (v := 0) hx hb dX9_turns_2 (by decide) ?_
  refine lv_istore_n (lv' := [(3, .int 0), (2, .int (nI r)), (0, .ref (ma 0)), (1, .int (nI r))]) hx hb dX9_turns_3 rfl hl (by decide) rfl (fun ls hl => ?_)
  have loop1 : ∀ (n_ : Nat) (k : Nat) (M1 : MS) (H : Heap) (locs : List Loc) (ls : Array Slot) (hk : k ≤ 6) (hs1 : ∀ k9, scr k9 = false → k9 < 40 → M1 k9 = M k9) (h1 : ∀ c, c < k → M1 26 c = bI false) (hM : WM G ma M1 H) (hS : va_S (mA ma) s.heap H locs), 6 - k < n_ → lv_has ls 4 [(3, .int (nI k)), (2, .int (nI r)), (0, .ref (ma 0)), (1, .int (nI r))] → W p l e (rmL 3 0 0) s m args below meth c H locs 0 0 Q (F0 m 4 ls []) := by
    intro n_
    induction n_ with
    | zero => intro k M1 H locs ls hk hs1 h1 hM hS hm hl; omega
    | succ n_ ih1 =>
      intro k M1 H locs ls hk hs1 h1 hM hS hm hl
      refine lv_iload_n hx hb dX9_turns_4 rfl (lv_at hl 0 rfl) ?_
      refine lv_bipush (v := 6) hx hb dX9_turns_5 (by decide) ?_
      refine ln_ge (tgt := 23) (a := k) (b := 6) hx hb dX9_turns_7 (by decide) rfl rfl (by omega) (by omega) (fun c_2t => ?_) (fun c_2f => ?_)
      · have loop3 : ∀ (n_ : Nat) (i : Nat) (M2 : MS) (H : Heap) (locs : List Loc) (ls : Array Slot) (hi : i < rgN M r) (hs2 : ∀ k9, scr k9 = false → k9 < 40 → M2 k9 = M k9) (hd : ∀ c, c < 6 → M2 26 c = bI (anyB (fun j => decide (rgI M r j = c)) i)) (hn : ∀ j, j < i → M2 27 (rgI M r j) = M 24 (rgI M r j)) (hM : WM G ma M2 H) (hS : va_S (mA ma) s.heap H locs), rgN M r - i < n_ → lv_has ls 4 [(2, .int (nI (rgI M r i))), (0, .ref (ma 0)), (1, .int (nI r))] → W p l e (rmL 3 0 0) s m args below meth c H locs 0 0 Q (F0 m 23 ls []) := by
          intro n_
          induction n_ with
          | zero => intro i M2 H locs ls hi hs2 hd hn hM hS hm hl; omega
          | succ n_ ih3 =>
            intro i M2 H locs ls hi hs2 hd hn hM hS hm hl
            have hi6 : rgI M r i < 6 := Nat.lt_of_lt_of_le (ring_lt hrN hn0 i (by omega)) hcnt.R6
            have hi16 : rgI M r (i + 1) < 6 := Nat.lt_of_lt_of_le (ring_lt hrN hn0 (i + 1) (by omega)) hcnt.R6
            refine lv_aload_n hx hb dX9_turns_23 rfl (lv_at hl 1 rfl) ?_
            refine mr_get hC hK hM 26 (by decide) fl_X9_68 rfl (v := .ref (ma 26)) rfl dX9_turns_24 ?_
            refine lv_iload_n hx hb dX9_turns_27 rfl (lv_at hl 0 rfl) ?_
            refine lv_iconst (v := 1) hx hb dX9_turns_28 (by decide) ?_
            refine mr_zst hC hK hI hM hS 26 (mA_k (by decide)) (i := (rgI M r i)) (show rgI M r i < 6 from by omega) rfl true rfl dX9_turns_29 (fun H locs hM hS => ?_)
            refine lv_aload_n hx hb dX9_turns_30 rfl (lv_at hl 1 rfl) ?_
            refine mr_get hC hK hM 27 (by decide) fl_X9_71 rfl (v := .ref (ma 27)) rfl dX9_turns_31 ?_
            refine lv_iload_n hx hb dX9_turns_34 rfl (lv_at hl 0 rfl) ?_
            refine lv_aload_n hx hb dX9_turns_35 rfl (lv_at hl 1 rfl) ?_
            refine mr_get hC hK hM 24 (by decide) fl_X9_62 rfl (v := .ref (ma 24)) rfl dX9_turns_36 ?_
            refine lv_iload_n hx hb dX9_turns_39 rfl (lv_at hl 0 rfl) ?_
            refine mr_ild hC hK hM 24 (i := (rgI M r i)) (show rgI M r i < 6 from by omega) rfl (v := M2 24 (rgI M r i)) rfl dX9_turns_40 ?_
            refine mr_ist hC hK hI hM hS 27 (mA_k (by decide)) (i := (rgI M r i)) (show rgI M r i < 6 from by omega) rfl dX9_turns_41 (fun H locs hM hS => ?_)
            refine lv_aload_n hx hb dX9_turns_42 rfl (lv_at hl 1 rfl) ?_
            refine lv_iload_n hx hb dX9_turns_43 rfl (lv_at hl 0 rfl) ?_
            refine cl_pi (x := nI (rgI M r (i + 1))) (run_V hC (c9_nextOf l G ma (mset (mset M2 26 (rgI M r i) (bI true)) 27 (rgI M r i) (M2 24 (rgI M r i))) none (rgI M r i) (cnt_congr hcnt (sc_set rfl (sc_set rfl hs2))) hi6) (As := [.int (nI (rgI M r i))]) (rest := []) rfl rfl ml_X9_192 im_X9_nextOf se_X9_nextOf ini_X9 cd_X9_nextOf ⟨rfl, na_X9_nextOf⟩ mB_blind (mr_recv hK (WS.of hM)) (mr_B hK (WS.of hM)) hl.1 (Nat.le_of_ble_eq_true rfl) ⟨Nat.le_of_ble_eq_true rfl, Nat.le_of_ble_eq_true rfl⟩ ⟨Nat.le_refl _, Nat.le_refl _⟩ rfl dX9_turns_44) (by rw [nxtA_cg (sc_set rfl (sc_set rfl hs2)) (rgI M r i), b3 i hi]; rfl) ?_
            refine lv_istore_n (lv' := [(2, .int (nI (rgI M r (i + 1)))), (0, .ref (ma 0)), (1, .int (nI r))]) hx hb dX9_turns_47 rfl hl (by decide) rfl (fun ls hl => ?_)
            have hd3 : ∀ c, c < 6 → (mset (mset M2 26 (rgI M r i) (bI true)) 27 (rgI M r i) (M2 24 (rgI M r i))) 26 c = bI (anyB (fun j => decide (rgI M r j = c)) (i + 1)) := by
              intro c hc
              rw [mset_n _ _ _ (by decide), mset_s]
              unfold upd
              by_cases e : c = rgI M r i
              · rw [if_pos e, anyB, decide_eq_true e.symm, Bool.or_true]
              · rw [if_neg e, hd c hc, anyB, decide_eq_false (fun q => e q.symm), Bool.or_false]
            have hn3 : ∀ j, j < i + 1 → (mset (mset M2 26 (rgI M r i) (bI true)) 27 (rgI M r i) (M2 24 (rgI M r i))) 27 (rgI M r j) = M 24 (rgI M r j) := by
              intro j hj
              rw [mset_s]
              unfold upd
              by_cases e : rgI M r j = rgI M r i
              · rw [if_pos e, e, hs2 24 rfl (by decide)]
              · rw [if_neg e, mset_n _ _ _ (by decide)]
                exact hn j (by rcases Nat.lt_or_ge j i with q | q; exact q; exact absurd (by rw [show j = i by omega]) e)
            refine lv_iload_n hx hb dX9_turns_48 rfl (lv_at hl 0 rfl) ?_
            refine lv_iload_n hx hb dX9_turns_49 rfl (lv_at hl 2 rfl) ?_
            refine ln_ne (tgt := 23) (a := (rgI M r (i + 1))) (b := r) hx hb dX9_turns_50 (by decide) rfl rfl (by omega) (by omega) (fun c_4t => ?_) (fun c_4f => ?_)
            · exact ih3 (i + 1) (mset (mset M2 26 (rgI M r i) (bI true)) 27 (rgI M r i) (M2 24 (rgI M r i))) H locs ls (by rcases Nat.lt_or_ge (i + 1) (rgN M r) with q | q; exact q; exact absurd (show rgI M r (i + 1) = r by rw [show i + 1 = rgN M r by omega]; exact b4) c_4t) (sc_set rfl (sc_set rfl hs2)) hd3 hn3 hM hS (by omega) (lv_sub hl [0, 1, 2] rfl)
            · have hin : i + 1 = rgN M r := by rcases Nat.lt_or_ge (i + 1) (rgN M r) with q | q; exact absurd (b5 (i + 1) (by omega) q) (by omega); omega
              refine lv_iconst (v := 0) hx hb dX9_turns_53 (by decide) ?_
              refine lv_istore_n (lv' := [(3, .int 0), (2, .int (nI (rgI M r (i + 1)))), (0, .ref (ma 0)), (1, .int (nI r))]) hx hb dX9_turns_54 rfl hl (by decide) rfl (fun ls hl => ?_)
              have loop5 : ∀ (n_ : Nat) (k : Nat) (M3 : MS) (H : Heap) (locs : List Loc) (ls : Array Slot) (hk : k ≤ nR M) (hs3 : ∀ k9, scr k9 = false → k9 < 40 → M3 k9 = trnGo M (rgM M r) k k9) (hd4 : ∀ c, c < 6 → M3 26 c = bI (rgM M r c)) (hn4 : ∀ c, c < 6 → rgM M r c = true → M3 27 c = M 24 c) (hM : WM G ma M3 H) (hS : va_S (mA ma) s.heap H locs), nR M - k < n_ → lv_has ls 4 [(3, .int (nI k)), (0, .ref (ma 0)), (1, .int (nI r))] → W p l e (rmL 3 0 0) s m args below meth c H locs 0 0 Q (F0 m 55 ls []) := by
                intro n_
                induction n_ with
                | zero => intro k M3 H locs ls hk hs3 hd4 hn4 hM hS hm hl; omega
                | succ n_ ih5 =>
                  intro k M3 H locs ls hk hs3 hd4 hn4 hM hS hm hl
                  refine lv_iload_n hx hb dX9_turns_55 rfl (lv_at hl 0 rfl) ?_
                  refine lv_aload_n hx hb dX9_turns_56 rfl (lv_at hl 1 rfl) ?_
                  refine mr_get hC hK hM 17 (by decide) fl_X9_103 rfl (v := .int (nI (nR M))) (congrArg Value.int (show M3 17 0 = (nI (nR M)) from (by rw [hs3 17 rfl (by decide), trn_row (by decide) (by decide) (by decide) (by decide)]; exact hcnt.R))) dX9_turns_57 ?_
                  refine ln_ge (tgt := 89) (a := k) (b := (nR M)) hx hb dX9_turns_60 (by decide) rfl rfl (by omega) (by omega) (fun c_6t => ?_) (fun c_6f => ?_)
                  · refine lv_aload_n hx hb dX9_turns_89 rfl (lv_at hl 1 rfl) ?_
                    refine lv_dup hx hb dX9_turns_90 rfl ?_
                    refine mr_get hC hK hM 29 (by decide) fl_X9_201 rfl (v := .int (M3 29 0)) rfl dX9_turns_91 ?_
                    refine lv_iconst (v := 1) hx hb dX9_turns_94 (by decide) ?_
                    refine lv_iadd hx hb dX9_turns_95 ?_
                    refine mr_put hC hK hI hM hS mA_0 29 (by decide) rfl fl_X9_201 rfl rfl rfl dX9_turns_96 (fun H locs hM hS => ?_)
                    subst hQ
                    exact rt_mv hx hb hr hlk (show WS G ma (trnF M r) none H from ⟨_, trn_fin hs3 (by omega), (fun _ h => (nomatch h)), hM⟩) hS  (rfl) dX9_turns_99
                  · refine lv_aload_n hx hb dX9_turns_63 rfl (lv_at hl 1 rfl) ?_
                    refine mr_get hC hK hM 26 (by decide) fl_X9_68 rfl (v := .ref (ma 26)) rfl dX9_turns_64 ?_
                    refine lv_iload_n hx hb dX9_turns_67 rfl (lv_at hl 0 rfl) ?_
                    refine mr_zld hC hK hM 26 (i := k) (show k < 6 from by omega) rfl (v := bI (rgM M r k)) (hd4 k (by omega)) dX9_turns_68 ?_
                    refine lb_eq (tgt := 83) (b := (rgM M r k)) hx hb dX9_turns_69 (by decide) (fun c_7t => ?_) (fun c_7f => ?_)
                    · refine lv_iinc (v := nI (k + 1)) (lv' := [(3, .int (nI (k + 1))), (0, .ref (ma 0)), (1, .int (nI r))]) hx hb dX9_turns_83 hl (k := 0) rfl (nI_inc _) (by decide) rfl (fun ls hl => ?_)
                      refine lv_goto (tgt := 55) hx hb dX9_turns_86 (by decide) ?_
                      exact ih5 (k + 1) M3 H locs ls (by omega) (by rw [trnGo, if_neg (by rw [c_7t]; exact fun q => by cases q)]; exact hs3) (fun c hc => by show M3 26 c = _; exact hd4 c hc) (fun c hc hm => by show M3 27 c = _; exact hn4 c hc hm) hM hS (by omega) (lv_sub hl [0, 1, 2] rfl)
                    · refine lv_aload_n hx hb dX9_turns_72 rfl (lv_at hl 1 rfl) ?_
                      refine lv_iload_n hx hb dX9_turns_73 rfl (lv_at hl 0 rfl) ?_
                      refine lv_aload_n hx hb dX9_turns_74 rfl (lv_at hl 1 rfl) ?_
                      refine mr_get hC hK hM 27 (by decide) fl_X9_71 rfl (v := .ref (ma 27)) rfl dX9_turns_75 ?_
                      refine lv_iload_n hx hb dX9_turns_78 rfl (lv_at hl 0 rfl) ?_
                      refine mr_ild hC hK hM 27 (i := k) (show k < 6 from by omega) rfl (v := M 24 k) (hn4 k (by omega) c_7f) dX9_turns_79 ?_
                      refine mcl_vW (run_V hC (c9W_moves l G ma M3 k (M 24 k) hI (by omega)) (As := [.int (nI k), .int (M 24 k)]) (rest := []) rfl rfl ml_X9_198 im_X9_moves se_X9_moves ini_X9 cd_X9_moves ⟨rfl, na_X9_moves⟩ mBW_blind (mr_recv hK (WS.of hM)) (mrW_B hK hM) hl.1 (Nat.le_of_ble_eq_true rfl) ⟨Nat.le_of_ble_eq_true rfl, Nat.le_of_ble_eq_true rfl⟩ ⟨Nat.le_refl _, Nat.le_refl _⟩ rfl dX9_turns_80) hS (fun _ h => h) (fun M8 H locs hp8 hM hS => ?_)
                      rw [hp8] at hM
                      refine lv_iinc (v := nI (k + 1)) (lv' := [(3, .int (nI (k + 1))), (0, .ref (ma 0)), (1, .int (nI r))]) hx hb dX9_turns_83 hl (k := 0) rfl (nI_inc _) (by decide) rfl (fun ls hl => ?_)
                      refine lv_goto (tgt := 55) hx hb dX9_turns_86 (by decide) ?_
                      exact ih5 (k + 1) (mvF M3 k (M 24 k)) H locs ls (by omega) (by rw [trnGo, if_pos c_7f]; exact mvF_cg hs3) (fun c hc => by show M3 26 c = _; exact hd4 c hc) (fun c hc hm => by show M3 27 c = _; exact hn4 c hc hm) hM hS (by omega) (lv_sub hl [0, 1, 2] rfl)
              exact loop5 ((nR M - 0) + 1) 0 (mset (mset M2 26 (rgI M r i) (bI true)) 27 (rgI M r i) (M2 24 (rgI M r i))) H locs ls (by omega) (sc_set rfl (sc_set rfl hs2)) (fun c hc => by rw [hd3 c hc, hin]; rfl) (fun c hc hm => by obtain ⟨j, hj, e⟩ := rgM_t.mp hm; rw [← e]; exact hn3 j (by omega)) hM hS (by omega) (lv_sub hl [0, 2, 3] rfl)
        exact loop3 ((rgN M r - 0) + 1) 0 M1 H locs ls (by omega) hs1 (fun c hc => h1 c (by omega)) (fun j h => by omega) hM hS (by omega) (lv_sub hl [1, 2, 3] rfl)
      · refine lv_aload_n hx hb dX9_turns_10 rfl (lv_at hl 2 rfl) ?_
        refine mr_get hC hK hM 26 (by decide) fl_X9_68 rfl (v := .ref (ma 26)) rfl dX9_turns_11 ?_
        refine lv_iload_n hx hb dX9_turns_14 rfl (lv_at hl 0 rfl) ?_
        refine lv_iconst (v := 0) hx hb dX9_turns_15 (by decide) ?_
        refine mr_zst hC hK hI hM hS 26 (mA_k (by decide)) (i := k) (show k < 6 from by omega) rfl false rfl dX9_turns_16 (fun H locs hM hS => ?_)
        refine lv_iinc (v := nI (k + 1)) (lv' := [(3, .int (nI (k + 1))), (2, .int (nI r)), (0, .ref (ma 0)), (1, .int (nI r))]) hx hb dX9_turns_17 hl (k := 0) rfl (nI_inc _) (by decide) rfl (fun ls hl => ?_)
        refine lv_goto (tgt := 4) hx hb dX9_turns_20 (by decide) ?_
        exact ih1 (k + 1) (mset M1 26 k (bI false)) H locs ls (by omega) (sc_set rfl hs1) (fun c hc => by rw [mset_s]; unfold upd; split; rfl; exact h1 c (by omega)) hM hS (by omega) (lv_sub hl [0, 1, 2, 3] rfl)
  exact loop1 ((6 - 0) + 1) 0 M0 H locs ls (by omega) hs (fun c h => by omega) hM hS (by omega) (lv_sub hl [0, 1, 2, 3] rfl)
