/-! LISTS THAT GROW -/
theorem q_recv {G : gG} {s : State} {H : Heap} {a n : Nat} {f : Nat → Option Nat} (hK : gK G s) (h : va_at G.1 gCl (a, qE G n f) H) : ∃ cell : Cell, H[a]? = some cell ∧ cell.vm.isStatics = false ∧ s.vm.findClass "[Ljava/lang/Object;" = some cell.cls := by
  obtain ⟨kA, comp, k1, k2, k3, k4⟩ := (hK.1.2 2 _ rfl).2
  exact ⟨_, h, rfl, k4⟩
theorem gAny.lt {s : State} {H : Heap} {a : Nat} (h : gAny s H a) : a < H.size := by
  obtain ⟨c, h1, -⟩ := h
  exact (Array.getElem?_eq_some_iff.mp h1).1
theorem cpy_lf {n0 k : Nat} {f : Nat → Nat} (j : Nat) : va_cpy (lf n0 f) (fun _ => none) 0 0 n0 j = lf n0 f j := by
  unfold va_cpy lf
  by_cases h : j < n0
  · rw [if_pos (by omega), if_pos (by omega), if_pos h]
    congr 2
    omega
  · rw [if_neg (by omega), if_neg h]
theorem max_half {n a b : Nat} (h2 : 2 ≤ n) (h3 : n ≤ 40000) (ha : a = 1) (hb : b = n / 2) : (if nI a < nI b then nI b else nI a) = nI (n / 2) := by
  subst ha; subst hb
  by_cases h : 1 < n / 2
  · rw [if_pos (nI_lt h (by omega))]
  · rw [if_neg (nI_nlt (by omega) (by omega)), show n / 2 = 1 by omega]
theorem xB_blind {G : gG} {d0 mi N : Nat} {A : Nat → Prop} {q : Nat × va_E} {av : List Value} : FrameBlind (va_Pc av (fun S => S.heap.size = N ∧ va_at G.1 gCl q S.heap ∧ gX G d0 mi A S)) := fun _ _ _ _ h => ⟨h.1, h.2.1, h.2.2.1, h.2.2.2.blind⟩
theorem yB_blind {G : gG} {d0 mi N : Nat} {A P : Nat → Prop} {g : Nat → Nat} {q r : Nat × va_E} {av : List Value} : FrameBlind (va_Pc av (fun S => S.heap.size = N ∧ va_at G.1 gCl q S.heap ∧ va_at G.1 gCl r S.heap ∧ (∀ i, P i → gAny S S.heap (g i)) ∧ gX G d0 mi A S)) := fun _ _ _ _ h => ⟨h.1, h.2.1, h.2.2.1, h.2.2.2.1, h.2.2.2.2.1, h.2.2.2.2.2.blind⟩
theorem zB_blind {G : gG} {d0 mi N : Nat} {A P : Nat → Prop} {g : Nat → Nat} {q : Nat × va_E} {av : List Value} : FrameBlind (va_Pc av (fun S => S.heap.size = N ∧ va_at G.1 gCl q S.heap ∧ (∀ i, P i → gAny S S.heap (g i)) ∧ gX G d0 mi A S)) := fun _ _ _ _ h => ⟨h.1, h.2.1, h.2.2.1, h.2.2.2.1, h.2.2.2.2.blind⟩
set_option maxHeartbeats 4000000 in
set_option maxRecDepth 100000 in
theorem cJ_J8_newLength_cabcc (l : Launch) (n a b : Nat) (h2 : 2 ≤ n) (h3 : n ≤ 20000) (ha : a = 1) (hb2 : b = n / 2) : Met l yJ8_newLength_cabcc (wB yJ8_newLength_cabcc cJ8_newLength_cabcc 4 (some .int)) (rmL 1 0 0) (va_Pc [.int (nI n), .int (nI a), .int (nI b)] (fun _ => True)) (k2_QcV (.int (nI (n + n / 2)))) 0 0 fN := by
  refine st_N (own := RJ8) (by decide +kernel) rfl (Nat.le_of_ble_eq_true rfl) ?_
  intro p e s m below meth c ls args Q hQ hC hr hlk hnm hl hP
  have hx := hC.1
  have hb := hC.2.1
  have hl : lv_has ls 4 [(0, .int (nI n)), (1, .int (nI a)), (2, .int (nI b))] := hl
  refine lv_iload_n hx hb dJ8_newLength_cabcc_0 rfl (lv_at hl 0 rfl) ?_
  refine lv_iload_n hx hb dJ8_newLength_cabcc_1 rfl (lv_at hl 1 rfl) ?_
  refine lv_iload_n hx hb dJ8_newLength_cabcc_2 rfl (lv_at hl 2 rfl) ?_
  refine va_mmax hx hb (by rw [hC.2.2.1]; exact hl.1.symm) hC.2.2.2.1 (hC.2.2.2.2 _ ml_J8_194) (hC.2.2.2.2 _ sm_J9_max_7cf53) (hC.2.2.2.2 _ ini_J9) (hC.2.2.2.2 _ cd_J9_max_7cf53) (Nat.le_of_ble_eq_true rfl) (Nat.le_of_ble_eq_true rfl) (by show 0 ≤ 0; omega) (by show 0 ≤ 0; omega) dJ8_newLength_cabcc_3 ?_
  refine top_i (y := nI (n / 2)) (max_half h2 (by omega) ha hb2) ?_
  refine lv_iadd hx hb dJ8_newLength_cabcc_6 ?_
  refine top_i (y := nI (n + (n / 2))) (nI_add n (n / 2)) ?_
  refine lv_istore_n (lv' := [(3, .int (nI (n + (n / 2)))), (0, .int (nI n)), (1, .int (nI a)), (2, .int (nI b))]) hx hb dJ8_newLength_cabcc_7 rfl hl (by decide) rfl (fun ls hl => ?_)
  refine lv_iconst (v := 0) hx hb dJ8_newLength_cabcc_8 (by decide) ?_
  refine lv_iload_n hx hb dJ8_newLength_cabcc_9 rfl (lv_at hl 0 rfl) ?_
  refine ln_ge (tgt := 21) (a := 0) (b := (n + (n / 2))) hx hb dJ8_newLength_cabcc_10 (by decide) rfl rfl (by omega) (by omega) (fun c => absurd c (by omega)) (fun _ => ?_)
  refine lv_iload_n hx hb dJ8_newLength_cabcc_13 rfl (lv_at hl 0 rfl) ?_
  refine lv_ldc hx hb hC.2.2.2.1 (hC.2.2.2.2 _ k_J8_200) dJ8_newLength_cabcc_14 ?_
  refine ln_gt (tgt := 21) (a := (n + (n / 2))) (b := 2147483639) hx hb dJ8_newLength_cabcc_16 (by decide) rfl rfl (by omega) (by omega) (fun c => absurd c (by omega)) (fun _ => ?_)
  refine lv_iload_n hx hb dJ8_newLength_cabcc_19 rfl (lv_at hl 0 rfl) ?_
  subst hQ
  exact rt_i hx hb hr hlk rfl dJ8_newLength_cabcc_20
set_option maxHeartbeats 4000000 in
set_option maxRecDepth 100000 in
theorem cJ_J7_copyOf_6403c (l : Launch) (G : gG) (d0 mi a0 n0 : Nat) (f : Nat → Nat) (k N : Nat) (hk : n0 ≤ k) (hk2 : k ≤ 30000) : Met l yJ7_copyOf_6403c (wB yJ7_copyOf_6403c cJ7_copyOf_6403c 4 (some (.array (.object "java/lang/Object")))) (rmL 1 1 k) (va_Pc [.ref a0, .int (nI k), .ref mi] (fun S => S.heap.size = N ∧ va_at G.1 gCl (a0, qE G n0 (lf n0 f)) S.heap ∧ (∀ i, i < n0 → gAny S S.heap (f i)) ∧ gX G d0 mi (rvA a0 N) S)) (va_Qr (S := Unit) (fun _ => True) (fun _ z t => N ≤ z ∧ va_at G.1 gCl (z, qE G k (lf n0 f)) t.heap) (rvA a0 N)) 1 k (rvA a0 N) := by
  refine st_N (own := RJ7) (by decide +kernel) rfl (Nat.le_of_ble_eq_true rfl) ?_
  intro p e s m below meth c ls args Q hQ hC hr hlk hnm hl hP
  obtain ⟨hN, ha, hel, hX⟩ := hP
  have hK := hX.1
  have haN : a0 < N := by rw [← hN]; exact ha.lt
  have hx := hC.1
  have hb := hC.2.1
  have hl : lv_has ls 4 [(0, .ref a0), (1, .int (nI k)), (2, .ref mi)] := hl
  obtain ⟨H, locs, hHe, hLe⟩ : ∃ (H : Heap) (locs : List Loc), H = s.heap ∧ locs = [] := ⟨_, _, rfl, rfl⟩
  have hS : va_S (rvA a0 N) s.heap H locs := by rw [hHe, hLe]; exact va_S.rf
  rw [← hHe] at ha
  rw [← hHe] at hel
  suffices hgo : W p l e (rmL 1 1 k) s m args below meth c H locs 0 0 Q (F0 m 0 ls []) by
    rw [hHe, hLe] at hgo
    exact hgo
  clear hLe
  refine lv_aload_n hx hb dJ7_copyOf_6403c_0 rfl (lv_at hl 2 rfl) ?_
  refine va_ldcM hx hb hC.2.2.2.1 (hC.2.2.2.2 _ cl_J7_110) hX.2.1.1 dJ7_copyOf_6403c_1 ?_
  refine lv_acmp_ne (rx := some mi) (ry := some mi) (tgt := 13) hx hb dJ7_copyOf_6403c_3 (by decide) (fun c => absurd rfl c) (fun _ => ?_)
  refine lv_iload_n hx hb dJ7_copyOf_6403c_6 rfl (lv_at hl 1 rfl) ?_
  have hsz_ := hS.1
  refine r2_qnew hC hK hX.2.1.2.2 hS cl_J7_2 (n := k) (by omega) (Nat.le_of_ble_eq_true rfl) (by show 0 + k ≤ k; omega) dJ7_copyOf_6403c_7 (fun z H hz_ haz hz1_ oq_ hS => ?_)
  have hzN : N ≤ z := by rw [hz_, ← hN]; exact hsz_
  have hel2 : ∀ i, i < n0 → gAny s H (f i) := fun i hi => (hel i hi).kept (oq_ _ (hel i hi).lt)
  have ha := ha.kept (oq_ _ ha.lt)
  refine lv_goto (tgt := 24) hx hb dJ7_copyOf_6403c_10 (by decide) ?_
  refine lv_astore_n (lv' := [(3, .ref z), (0, .ref a0), (1, .int (nI k)), (2, .ref mi)]) hx hb dJ7_copyOf_6403c_24 rfl hl (by decide) rfl (fun ls hl => ?_)
  refine lv_aload_n hx hb dJ7_copyOf_6403c_25 rfl (lv_at hl 1 rfl) ?_
  refine lv_iconst (v := 0) hx hb dJ7_copyOf_6403c_26 (by decide) ?_
  refine lv_aload_n hx hb dJ7_copyOf_6403c_27 rfl (lv_at hl 0 rfl) ?_
  refine lv_iconst (v := 0) hx hb dJ7_copyOf_6403c_28 (by decide) ?_
  refine lv_aload_n hx hb dJ7_copyOf_6403c_29 rfl (lv_at hl 1 rfl) ?_
  refine r2_qlen hC hK ha dJ7_copyOf_6403c_30 ?_
  refine lv_iload_n hx hb dJ7_copyOf_6403c_31 rfl (lv_at hl 2 rfl) ?_
  refine va_mmin hx hb (by rw [hC.2.2.1]; exact hl.1.symm) hC.2.2.2.1 (hC.2.2.2.2 _ ml_J7_304) (hC.2.2.2.2 _ sm_J9_min_7cf53) (hC.2.2.2.2 _ ini_J9) (hC.2.2.2.2 _ cd_J9_min_7cf53) (Nat.le_of_ble_eq_true rfl) (Nat.le_of_ble_eq_true rfl) (by show 0 + 1 ≤ 1; omega) (by show 0 + k ≤ k; omega) dJ7_copyOf_6403c_32 ?_
  refine top_i (y := nI n0) (if_neg (nI_nlt hk (by omega))) ?_
  refine r2_copy2 hC hK (sp := 0) (dp := 0) (k := n0) ha haz (by omega) hS (Or.inl rfl) (Or.inr hzN) ml_J7_150 hl.1 (by omega) (by omega) (by omega) (by omega) (fun i hi y hy => ?_) ⟨Nat.le_of_ble_eq_true rfl, Nat.le_of_ble_eq_true rfl⟩ (Nat.le_of_ble_eq_true rfl) dJ7_copyOf_6403c_35 (fun H locs haz hS => ?_)
  · obtain ⟨h1, h2⟩ := lf_lt (show lf n0 f (0 + i) = some y from hy)
    rw [← h2]
    exact hel2 _ h1
  have haz : va_at G.1 gCl (z, qE G k (lf n0 f)) H := qE_cg haz (fun j _ => cpy_lf (k := k) j)
  refine lv_aload_n hx hb dJ7_copyOf_6403c_38 rfl (lv_at hl 0 rfl) ?_
  subst hQ
  exact rt_qr () hx hb hr (Or.inr ⟨_, rfl⟩) hlk hS trivial (fun t ht _ => ⟨hzN, by rw [ht]; exact haz⟩) (by show 0 + 1 ≤ 1; omega) (by show 0 + k ≤ k; omega) dJ7_copyOf_6403c_39
set_option maxHeartbeats 4000000 in
set_option maxRecDepth 100000 in
theorem cJ_J7_copyOf_1904c (l : Launch) (G : gG) (d0 mi a0 n0 : Nat) (f : Nat → Nat) (k N : Nat) (hk : n0 ≤ k) (hk2 : k ≤ 30000) : Met l yJ7_copyOf_1904c (wB yJ7_copyOf_1904c cJ7_copyOf_1904c 2 (some (.array (.object "java/lang/Object")))) (rmL 2 1 k) (va_Pc [.ref a0, .int (nI k)] (fun S => S.heap.size = N ∧ va_at G.1 gCl (a0, qE G n0 (lf n0 f)) S.heap ∧ (∀ i, i < n0 → gAny S S.heap (f i)) ∧ gX G d0 mi (rvA a0 N) S)) (va_Qr (S := Unit) (fun _ => True) (fun _ z t => N ≤ z ∧ va_at G.1 gCl (z, qE G k (lf n0 f)) t.heap) (rvA a0 N)) 1 k (rvA a0 N) := by
  refine st_N (own := RJ7) (by decide +kernel) rfl (Nat.le_of_ble_eq_true rfl) ?_
  intro p e s m below meth c ls args Q hQ hC hr hlk hnm hl hP
  obtain ⟨hN, ha, hel, hX⟩ := hP
  have hK := hX.1
  have haN : a0 < N := by rw [← hN]; exact ha.lt
  have hx := hC.1
  have hb := hC.2.1
  have hl : lv_has ls 2 [(0, .ref a0), (1, .int (nI k))] := hl
  obtain ⟨H, locs, hHe, hLe⟩ : ∃ (H : Heap) (locs : List Loc), H = s.heap ∧ locs = [] := ⟨_, _, rfl, rfl⟩
  have hS : va_S (rvA a0 N) s.heap H locs := by rw [hHe, hLe]; exact va_S.rf
  rw [← hHe] at ha
  rw [← hHe] at hel
  suffices hgo : W p l e (rmL 2 1 k) s m args below meth c H locs 0 0 Q (F0 m 0 ls []) by
    rw [hHe, hLe] at hgo
    exact hgo
  clear hLe
  refine lv_aload_n hx hb dJ7_copyOf_1904c_0 rfl (lv_at hl 0 rfl) ?_
  refine lv_iload_n hx hb dJ7_copyOf_1904c_1 rfl (lv_at hl 1 rfl) ?_
  refine lv_aload_n hx hb dJ7_copyOf_1904c_2 rfl (lv_at hl 0 rfl) ?_
  refine va_getC hx hb (by rw [hC.2.2.1]; exact hl.1.symm) hC.2.2.2.1 (hC.2.2.2.2 _ ml_J7_86) (va_Dc.use hX.2.1.2.1) (hC.2.2.2.2 _ se_getClass) (hC.2.2.2.2 _ im_getClass) (hC.2.2.2.2 _ nat_getClass) hX.2.1.1 (q_recv hK ha) (Nat.le_of_ble_eq_true rfl) (Nat.le_of_ble_eq_true rfl) dJ7_copyOf_1904c_3 ?_
  refine va_callr (run_S hC (cJ_J7_copyOf_6403c l G d0 mi a0 n0 f k N hk hk2) (As := [.ref a0, .int (nI k), .ref mi]) (rest := []) rfl rfl ml_J7_300 sm_J7_copyOf_6403c ini_J7 cd_J7_copyOf_6403c na_J7_copyOf_6403c zB_blind (fun U hU hW => ⟨by rw [hU, hHe]; exact hN, by rw [hU]; exact ha, fun i hi => by rw [hU]; exact gAny.moved hW.alike (hel i hi), hX.at hS (fun _ h => h) hU hW⟩) hl.1 (Nat.le_of_ble_eq_true rfl) ⟨Nat.le_of_ble_eq_true rfl, Nat.le_of_ble_eq_true rfl⟩ ⟨by show 0 + 1 ≤ 1; omega, by show 0 + k ≤ k; omega⟩ rfl dJ7_copyOf_1904c_6) hS (fun z_ _ h => h) (fun z_ h => h) (fun _ z tt H1 locs1 ht_ _ _ hB_ hz1_ oq_ hS => ?_)
  rw [ht_] at hB_
  obtain ⟨hzN, haz⟩ := hB_
  subst hQ
  exact rt_qr () hx hb hr (Or.inr ⟨_, rfl⟩) hlk hS trivial (fun t ht _ => ⟨hzN, by rw [ht]; exact haz⟩) (by show 0 + 1 ≤ 1; omega) (by show 0 + k ≤ k; omega) dJ7_copyOf_1904c_9
set_option maxHeartbeats 4000000 in
set_option maxRecDepth 100000 in
theorem cJ_growF (l : Launch) (G : gG) (d0 mi q : Nat) (md : Int32) (mn N : Nat) (hmn : mn ≤ 10) : Met l yJx4a65c_grow_92f84 (wB yJx4a65c_grow_92f84 cJx4a65c_grow_92f84 4 (some (.array (.object "java/lang/Object")))) (rmL 3 1 10) (va_Pc [.ref q, .int (nI mn)] (fun S => S.heap.size = N ∧ LO G q d0 0 md S.heap ∧ gX G d0 mi (rvA q N) S)) (va_Qr (S := Unit) (fun _ => True) (fun _ z t => N ≤ z ∧ LO G q z 0 md t.heap ∧ va_at G.1 gCl (z, qE G 10 (fun _ => none)) t.heap) (rvA q N)) 1 10 (rvA q N) := by
  refine st_N (own := RJx4a65c) (by decide +kernel) rfl (Nat.le_of_ble_eq_true rfl) ?_
  intro p e s m below meth c ls args Q hQ hC hr hlk hnm hl hP
  obtain ⟨hN, ho, hX⟩ := hP
  have hK := hX.1
  have hqN : q < N := by rw [← hN]; exact ho.lt
  have hx := hC.1
  have hb := hC.2.1
  have hl : lv_has ls 4 [(0, .ref q), (1, .int (nI mn))] := hl
  obtain ⟨H, locs, hHe, hLe⟩ : ∃ (H : Heap) (locs : List Loc), H = s.heap ∧ locs = [] := ⟨_, _, rfl, rfl⟩
  have hS : va_S (rvA q N) s.heap H locs := by rw [hHe, hLe]; exact va_S.rf
  rw [← hHe] at ho
  suffices hgo : W p l e (rmL 3 1 10) s m args below meth c H locs 0 0 Q (F0 m 0 ls []) by
    rw [hHe, hLe] at hgo
    exact hgo
  clear hLe
  refine lv_aload_n hx hb dJx4a65c_grow_92f84_0 rfl (lv_at hl 0 rfl) ?_
  refine r1_get hC hK.1 ho lay_Jx4a65c rfl 1 (by decide) fl_Jx4a65c_9 (fun x hx => hx) (v := .ref d0) rfl dJx4a65c_grow_92f84_1 ?_
  refine va_tlen hx hb hX.2.2.2 hS (v := 0) rfl dJx4a65c_grow_92f84_4 ?_
  refine lv_istore_n (lv' := [(2, .int 0), (0, .ref q), (1, .int (nI mn))]) hx hb dJx4a65c_grow_92f84_5 rfl hl (by decide) rfl (fun ls hl => ?_)
  refine lv_iload_n hx hb dJx4a65c_grow_92f84_6 rfl (lv_at hl 0 rfl) ?_
  refine lv_if_gt (tgt := 20) hx hb dJx4a65c_grow_92f84_7 (by decide) (fun c => absurd c (by decide)) (fun _ => ?_)
  refine lv_aload_n hx hb dJx4a65c_grow_92f84_10 rfl (lv_at hl 1 rfl) ?_
  refine r1_get hC hK.1 ho lay_Jx4a65c rfl 1 (by decide) fl_Jx4a65c_9 (fun x hx => hx) (v := .ref d0) rfl dJx4a65c_grow_92f84_11 ?_
  refine va_gets hx hb hX.2.2.1 hS hC.2.2.2.1 (hC.2.2.2.2 _ fl_Jx4a65c_39) (fun x hx => hx) dJx4a65c_grow_92f84_14 ?_
  refine lv_acmp_eq (rx := some d0) (ry := some d0) (tgt := 45) hx hb dJx4a65c_grow_92f84_17 (by decide) (fun _ => ?_) (fun c => absurd rfl c)
  refine lv_aload_n hx hb dJx4a65c_grow_92f84_45 rfl (lv_at hl 1 rfl) ?_
  refine lv_bipush (v := 10) hx hb dJx4a65c_grow_92f84_46 (by decide) ?_
  refine lv_iload_n hx hb dJx4a65c_grow_92f84_48 rfl (lv_at hl 2 rfl) ?_
  refine va_mmax hx hb (by rw [hC.2.2.1]; exact hl.1.symm) hC.2.2.2.1 (hC.2.2.2.2 _ ml_Jx4a65c_79) (hC.2.2.2.2 _ sm_J9_max_7cf53) (hC.2.2.2.2 _ ini_J9) (hC.2.2.2.2 _ cd_J9_max_7cf53) (Nat.le_of_ble_eq_true rfl) (Nat.le_of_ble_eq_true rfl) (by show 0 ≤ 1; omega) (by show 0 ≤ 10; omega) dJx4a65c_grow_92f84_49 ?_
  refine top_i (y := nI 10) (if_neg (nI_nlt (a := 10) (b := mn) hmn (by decide))) ?_
  have hsz_ := hS.1
  refine r2_qnew hC hK hX.2.1.2.2 hS cl_Jx4a65c_7 (n := 10) (by omega) (Nat.le_of_ble_eq_true rfl) (by show 0 + 10 ≤ 10; omega) dJx4a65c_grow_92f84_52 (fun z H hz_ haz hz1_ oq_ hS => ?_)
  have hzN : N ≤ z := by rw [hz_, ← hN]; exact hsz_
  have ho := ho.kept (oq_ _ ho.lt)
  refine lv_dup_x1 hx hb dJx4a65c_grow_92f84_55 rfl rfl ?_
  refine r2_put hC hK hS (Or.inl rfl) ho lay_Jx4a65c tyJx4a65c tyJx4a65c_ok nmJx4a65c rfl 1 (by decide) fl_Jx4a65c_9 (fun x hx => hx) rfl rfl rfl (Nat.le_of_ble_eq_true rfl) dJx4a65c_grow_92f84_56 (fun H locs ho z_ oq_ hS => ?_)
  have ho : va_at G.1 gCl (q, .inr (10, [.int md, .ref z, .int (nI 0)])) H := ho
  have haz := haz.kept (oq_ _ (by omega))
  clear z_ oq_
  subst hQ
  exact rt_qr () hx hb hr (Or.inr ⟨_, rfl⟩) hlk hS trivial (fun t ht _ => ⟨hzN, by rw [ht]; exact ho, by rw [ht]; exact haz⟩) (by show 0 + 1 ≤ 1; omega) (by show 0 + 10 ≤ 10; omega) dJx4a65c_grow_92f84_59
set_option maxHeartbeats 4000000 in
set_option maxRecDepth 100000 in
theorem cJ_growG (l : Launch) (G : gG) (d0 mi q arr n : Nat) (f : Nat → Nat) (md : Int32) (mn N : Nat) (h2 : 2 ≤ n) (h3 : n ≤ 20000) (hqa : arr ≠ q) (hmn : mn = n + 1) : Met l yJx4a65c_grow_92f84 (wB yJx4a65c_grow_92f84 cJx4a65c_grow_92f84 4 (some (.array (.object "java/lang/Object")))) (rmL 3 1 (n + n / 2)) (va_Pc [.ref q, .int (nI mn)] (fun S => S.heap.size = N ∧ LO G q arr n md S.heap ∧ LA G arr n n f S.heap ∧ (∀ i, i < n → gAny S S.heap (f i)) ∧ gX G d0 mi (rvB q arr N) S)) (va_Qr (S := Unit) (fun _ => True) (fun _ z t => N ≤ z ∧ LO G q z n md t.heap ∧ LA G z (n + n / 2) n f t.heap) (rvB q arr N)) 1 (n + n / 2) (rvB q arr N) := by
  refine st_N (own := RJx4a65c) (by decide +kernel) rfl (Nat.le_of_ble_eq_true rfl) ?_
  intro p e s m below meth c ls args Q hQ hC hr hlk hnm hl hP
  obtain ⟨hN, ho, ha, hel, hX⟩ := hP
  have hK := hX.1
  have hqN : q < N := by rw [← hN]; exact ho.lt
  have haN : arr < N := by rw [← hN]; exact ha.lt
  have hx := hC.1
  have hb := hC.2.1
  have hl : lv_has ls 4 [(0, .ref q), (1, .int (nI mn))] := hl
  obtain ⟨H, locs, hHe, hLe⟩ : ∃ (H : Heap) (locs : List Loc), H = s.heap ∧ locs = [] := ⟨_, _, rfl, rfl⟩
  have hS : va_S (rvB q arr N) s.heap H locs := by rw [hHe, hLe]; exact va_S.rf
  rw [← hHe] at ho
  rw [← hHe] at ha
  rw [← hHe] at hel
  suffices hgo : W p l e (rmL 3 1 (n + n / 2)) s m args below meth c H locs 0 0 Q (F0 m 0 ls []) by
    rw [hHe, hLe] at hgo
    exact hgo
  clear hLe
  refine lv_aload_n hx hb dJx4a65c_grow_92f84_0 rfl (lv_at hl 0 rfl) ?_
  refine r1_get hC hK.1 ho lay_Jx4a65c rfl 1 (by decide) fl_Jx4a65c_9 (fun x hx => hx) (v := .ref arr) rfl dJx4a65c_grow_92f84_1 ?_
  refine r2_qlen hC hK ha dJx4a65c_grow_92f84_4 ?_
  refine lv_istore_n (lv' := [(2, .int (nI n)), (0, .ref q), (1, .int (nI mn))]) hx hb dJx4a65c_grow_92f84_5 rfl hl (by decide) rfl (fun ls hl => ?_)
  refine lv_iload_n hx hb dJx4a65c_grow_92f84_6 rfl (lv_at hl 0 rfl) ?_
  refine lv_if_gt (tgt := 20) hx hb dJx4a65c_grow_92f84_7 (by decide) (fun _ => ?_) (fun c => absurd (nI_lt (a := 0) (b := n) (by omega) (by omega)) c)
  refine lv_iload_n hx hb dJx4a65c_grow_92f84_20 rfl (lv_at hl 0 rfl) ?_
  refine lv_iload_n hx hb dJx4a65c_grow_92f84_21 rfl (lv_at hl 2 rfl) ?_
  refine lv_iload_n hx hb dJx4a65c_grow_92f84_22 rfl (lv_at hl 0 rfl) ?_
  refine lv_isub hx hb dJx4a65c_grow_92f84_23 ?_
  refine top_i (y := nI (mn - n)) (pk_sub (a := mn) (b := n) (by omega)) ?_
  refine lv_iload_n hx hb dJx4a65c_grow_92f84_24 rfl (lv_at hl 0 rfl) ?_
  refine lv_iconst (v := 1) hx hb dJx4a65c_grow_92f84_25 (by decide) ?_
  refine lv_ishr hx hb dJx4a65c_grow_92f84_26 ?_
  refine top_i (y := nI (n / 2)) (by have k_ := pk_shrN (n := n) (by omega) ((1 : Int32) &&& 31) 1 (by decide); rw [Nat.pow_one] at k_; exact k_) ?_
  refine cl_p (run_S hC (cJ_J8_newLength_cabcc l n (mn - n) (n / 2) h2 h3 (by omega) rfl) (As := [.int (nI n), .int (nI (mn - n)), .int (nI (n / 2))]) (rest := []) rfl rfl ml_Jx4a65c_73 sm_J8_newLength_cabcc ini_J8 cd_J8_newLength_cabcc na_J8_newLength_cabcc tB_blind (fun _ _ _ => trivial) hl.1 (Nat.le_of_ble_eq_true rfl) ⟨Nat.le_of_ble_eq_true rfl, Nat.le_of_ble_eq_true rfl⟩ ⟨by show 0 + 0 ≤ 1; omega, by show 0 + 0 ≤ n + n / 2; omega⟩ rfl dJx4a65c_grow_92f84_27) ?_
  refine lv_istore_n (lv' := [(3, .int (nI (n + n / 2))), (2, .int (nI n)), (0, .ref q), (1, .int (nI mn))]) hx hb dJx4a65c_grow_92f84_30 rfl hl (by decide) rfl (fun ls hl => ?_)
  refine lv_aload_n hx hb dJx4a65c_grow_92f84_31 rfl (lv_at hl 2 rfl) ?_
  refine lv_aload_n hx hb dJx4a65c_grow_92f84_32 rfl (lv_at hl 2 rfl) ?_
  refine r1_get hC hK.1 ho lay_Jx4a65c rfl 1 (by decide) fl_Jx4a65c_9 (fun x hx => hx) (v := .ref arr) rfl dJx4a65c_grow_92f84_33 ?_
  refine lv_iload_n hx hb dJx4a65c_grow_92f84_36 rfl (lv_at hl 0 rfl) ?_
  refine va_callr (run_S hC (cJ_J7_copyOf_1904c l G d0 mi arr n f (n + n / 2) N (by omega) (by omega)) (As := [.ref arr, .int (nI (n + n / 2))]) (rest := [.ref q]) rfl rfl ml_Jx4a65c_66 sm_J7_copyOf_1904c ini_J7 cd_J7_copyOf_1904c na_J7_copyOf_1904c zB_blind (fun U hU hW => ⟨by rw [hU, hHe]; exact hN, by rw [hU]; exact ha, fun i hi => by rw [hU]; exact gAny.moved hW.alike (hel i hi), hX.at hS (fun z_ h => h.elim (fun e => Or.inr (Or.inl e)) (fun e => Or.inr (Or.inr e))) hU hW⟩) hl.1 (Nat.le_of_ble_eq_true rfl) ⟨Nat.le_of_ble_eq_true rfl, Nat.le_of_ble_eq_true rfl⟩ ⟨by show 0 + 1 ≤ 1; omega, by show 0 + (n + n / 2) ≤ n + n / 2; omega⟩ rfl dJx4a65c_grow_92f84_37) hS (fun z_ _ h => h.elim (fun e => Or.inr (Or.inl e)) (fun e => Or.inr (Or.inr e))) (fun z_ h => h.elim (fun e => Or.inr (Or.inl e)) (fun e => Or.inr (Or.inr e))) (fun _ z tt H1 locs1 ht_ _ _ hB_ hz1_ oq_ hS => ?_)
  rw [ht_] at hB_
  obtain ⟨hzN, haz⟩ := hB_
  have ho := ho.kept (oq_ _ ho.lt (fun h => h.elim (fun e => hqa e.symm) (fun e => by omega)))
  refine lv_dup_x1 hx hb dJx4a65c_grow_92f84_40 rfl rfl ?_
  refine r2_put hC hK hS (Or.inl rfl) ho lay_Jx4a65c tyJx4a65c tyJx4a65c_ok nmJx4a65c rfl 1 (by decide) fl_Jx4a65c_9 (fun x hx => hx) rfl rfl rfl (Nat.le_of_ble_eq_true rfl) dJx4a65c_grow_92f84_41 (fun H locs ho z_ oq_ hS => ?_)
  have ho : va_at G.1 gCl (q, .inr (10, [.int md, .ref z, .int (nI n)])) H := ho
  have haz := haz.kept (oq_ _ (by omega))
  clear z_ oq_
  subst hQ
  exact rt_qr () hx hb hr (Or.inr ⟨_, rfl⟩) hlk hS trivial (fun t ht _ => ⟨hzN, by rw [ht]; exact ho, by rw [ht]; exact haz⟩) (by show 0 + 1 ≤ 1; omega) (by show 0 + (n + n / 2) ≤ n + n / 2; omega) dJx4a65c_grow_92f84_44
set_option maxHeartbeats 4000000 in
set_option maxRecDepth 100000 in
theorem cJ_grow0F (l : Launch) (G : gG) (d0 mi q : Nat) (md : Int32) (N : Nat) : Met l yJx4a65c_grow_d5877 (wB yJx4a65c_grow_d5877 cJx4a65c_grow_d5877 1 (some (.array (.object "java/lang/Object")))) (rmL 4 1 10) (va_Pc [.ref q] (fun S => S.heap.size = N ∧ LO G q d0 0 md S.heap ∧ gX G d0 mi (rvA q N) S)) (va_Qr (S := Unit) (fun _ => True) (fun _ z t => N ≤ z ∧ LO G q z 0 md t.heap ∧ va_at G.1 gCl (z, qE G 10 (fun _ => none)) t.heap) (rvA q N)) 1 10 (rvA q N) := by
  refine st_N (own := RJx4a65c) (by decide +kernel) rfl (Nat.le_of_ble_eq_true rfl) ?_
  intro p e s m below meth c ls args Q hQ hC hr hlk hnm hl hP
  obtain ⟨hN, ho, hX⟩ := hP
  have hK := hX.1
  have hqN : q < N := by rw [← hN]; exact ho.lt
  have hx := hC.1
  have hb := hC.2.1
  have hl : lv_has ls 1 [(0, .ref q)] := hl
  obtain ⟨H, locs, hHe, hLe⟩ : ∃ (H : Heap) (locs : List Loc), H = s.heap ∧ locs = [] := ⟨_, _, rfl, rfl⟩
  have hS : va_S (rvA q N) s.heap H locs := by rw [hHe, hLe]; exact va_S.rf
  rw [← hHe] at ho
  suffices hgo : W p l e (rmL 4 1 10) s m args below meth c H locs 0 0 Q (F0 m 0 ls []) by
    rw [hHe, hLe] at hgo
    exact hgo
  clear hLe
  refine lv_aload_n hx hb dJx4a65c_grow_d5877_0 rfl (lv_at hl 0 rfl) ?_
  refine lv_aload_n hx hb dJx4a65c_grow_d5877_1 rfl (lv_at hl 0 rfl) ?_
  refine r1_get hC hK.1 ho lay_Jx4a65c rfl 2 (by decide) fl_Jx4a65c_48 (fun x hx => hx) (v := .int (nI 0)) rfl dJx4a65c_grow_d5877_2 ?_
  refine lv_iconst (v := 1) hx hb dJx4a65c_grow_d5877_5 (by decide) ?_
  refine lv_iadd hx hb dJx4a65c_grow_d5877_6 ?_
  refine top_i (y := nI (0 + 1)) (nI_add 0 1) ?_
  refine va_callr (run_V hC (cJ_growF l G d0 mi q md (0 + 1) N (by omega)) (As := [.int (nI (0 + 1))]) (rest := []) rfl rfl ml_Jx4a65c_69 im_Jx4a65c_grow_92f84 se_Jx4a65c_grow_92f84 ini_Jx4a65c cd_Jx4a65c_grow_92f84 ⟨rfl, na_Jx4a65c_grow_92f84⟩ xB_blind (ls_recv hK ho rfl) (fun U hU hW => ⟨by rw [hU, hHe]; exact hN, by rw [hU]; exact ho, hX.at hS (fun _ h => h) hU hW⟩) hl.1 (Nat.le_of_ble_eq_true rfl) ⟨Nat.le_of_ble_eq_true rfl, Nat.le_of_ble_eq_true rfl⟩ ⟨by show 0 + 1 ≤ 1; omega, by show 0 + 10 ≤ 10; omega⟩ rfl dJx4a65c_grow_d5877_7) hS (fun z_ _ h => h) (fun z_ h => h) (fun _ z tt H1 locs1 ht_ _ _ hB_ hz1_ oq_ hS => ?_)
  rw [ht_] at hB_
  obtain ⟨hzN, ho, haz⟩ := hB_
  subst hQ
  exact rt_qr () hx hb hr (Or.inr ⟨_, rfl⟩) hlk hS trivial (fun t ht _ => ⟨hzN, by rw [ht]; exact ho, by rw [ht]; exact haz⟩) (by show 0 + 1 ≤ 1; omega) (by show 0 + 10 ≤ 10; omega) dJx4a65c_grow_d5877_10
set_option maxHeartbeats 4000000 in
set_option maxRecDepth 100000 in
theorem cJ_grow0G (l : Launch) (G : gG) (d0 mi q arr n : Nat) (f : Nat → Nat) (md : Int32) (N : Nat) (h2 : 2 ≤ n) (h3 : n ≤ 20000) (hqa : arr ≠ q) : Met l yJx4a65c_grow_d5877 (wB yJx4a65c_grow_d5877 cJx4a65c_grow_d5877 1 (some (.array (.object "java/lang/Object")))) (rmL 4 1 (n + n / 2)) (va_Pc [.ref q] (fun S => S.heap.size = N ∧ LO G q arr n md S.heap ∧ LA G arr n n f S.heap ∧ (∀ i, i < n → gAny S S.heap (f i)) ∧ gX G d0 mi (rvB q arr N) S)) (va_Qr (S := Unit) (fun _ => True) (fun _ z t => N ≤ z ∧ LO G q z n md t.heap ∧ LA G z (n + n / 2) n f t.heap) (rvB q arr N)) 1 (n + n / 2) (rvB q arr N) := by
  refine st_N (own := RJx4a65c) (by decide +kernel) rfl (Nat.le_of_ble_eq_true rfl) ?_
  intro p e s m below meth c ls args Q hQ hC hr hlk hnm hl hP
  obtain ⟨hN, ho, ha, hel, hX⟩ := hP
  have hK := hX.1
  have hqN : q < N := by rw [← hN]; exact ho.lt
  have haN : arr < N := by rw [← hN]; exact ha.lt
  have hx := hC.1
  have hb := hC.2.1
  have hl : lv_has ls 1 [(0, .ref q)] := hl
  obtain ⟨H, locs, hHe, hLe⟩ : ∃ (H : Heap) (locs : List Loc), H = s.heap ∧ locs = [] := ⟨_, _, rfl, rfl⟩
  have hS : va_S (rvB q arr N) s.heap H locs := by rw [hHe, hLe]; exact va_S.rf
  rw [← hHe] at ho
  rw [← hHe] at ha
  rw [← hHe] at hel
  suffices hgo : W p l e (rmL 4 1 (n + n / 2)) s m args below meth c H locs 0 0 Q (F0 m 0 ls []) by
    rw [hHe, hLe] at hgo
    exact hgo
  clear hLe
  refine lv_aload_n hx hb dJx4a65c_grow_d5877_0 rfl (lv_at hl 0 rfl) ?_
  refine lv_aload_n hx hb dJx4a65c_grow_d5877_1 rfl (lv_at hl 0 rfl) ?_
  refine r1_get hC hK.1 ho lay_Jx4a65c rfl 2 (by decide) fl_Jx4a65c_48 (fun x hx => hx) (v := .int (nI n)) rfl dJx4a65c_grow_d5877_2 ?_
  refine lv_iconst (v := 1) hx hb dJx4a65c_grow_d5877_5 (by decide) ?_
  refine lv_iadd hx hb dJx4a65c_grow_d5877_6 ?_
  refine top_i (y := nI (n + 1)) (nI_add n 1) ?_
  refine va_callr (run_V hC (cJ_growG l G d0 mi q arr n f md (n + 1) N h2 h3 hqa rfl) (As := [.int (nI (n + 1))]) (rest := []) rfl rfl ml_Jx4a65c_69 im_Jx4a65c_grow_92f84 se_Jx4a65c_grow_92f84 ini_Jx4a65c cd_Jx4a65c_grow_92f84 ⟨rfl, na_Jx4a65c_grow_92f84⟩ (yB_blind (P := fun i => i < n) (g := f)) (ls_recv hK ho rfl) (fun U hU hW => ⟨by rw [hU, hHe]; exact hN, by rw [hU]; exact ho, by rw [hU]; exact ha, fun i hi => by rw [hU]; exact gAny.moved hW.alike (hel i hi), hX.at hS (fun _ h => h) hU hW⟩) hl.1 (Nat.le_of_ble_eq_true rfl) ⟨Nat.le_of_ble_eq_true rfl, Nat.le_of_ble_eq_true rfl⟩ ⟨by show 0 + 1 ≤ 1; omega, by show 0 + (n + n / 2) ≤ n + n / 2; omega⟩ rfl dJx4a65c_grow_d5877_7) hS (fun z_ _ h => h) (fun z_ h => h) (fun _ z tt H1 locs1 ht_ _ _ hB_ hz1_ oq_ hS => ?_)
  rw [ht_] at hB_
  obtain ⟨hzN, ho, haz⟩ := hB_
  subst hQ
  exact rt_qr () hx hb hr (Or.inr ⟨_, rfl⟩) hlk hS trivial (fun t ht _ => ⟨hzN, by rw [ht]; exact ho, by rw [ht]; exact haz⟩) (by show 0 + 1 ≤ 1; omega) (by show 0 + (n + n / 2) ≤ n + n / 2; omega) dJx4a65c_grow_d5877_10
