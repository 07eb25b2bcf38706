/-! LISTS: elements come and go -/
theorem up0_lf {x : Nat} (j : Nat) : va_up (fun _ => none) 0 (some x) j = lf 1 (fun _ => x) j := by
  unfold va_up lf
  by_cases e : j = 0
  · rw [if_pos e, if_pos (by omega)]
  · rw [if_neg e, if_neg (by omega)]
theorem gAny.ob {G : gG} {s : State} {H : Heap} {a ci : Nat} {r : vw_C} {fs : List Value} (hK : va_K G.1 gCl (gTys G) s) (h : va_at G.1 gCl (a, .inr (ci, fs)) H) (hc : gCl[ci]? = some r) (hN : va_Nw (.castable r.1 "java/lang/Object") s) : gAny s H a := gAny_of hK h hc hN
theorem fB_blind {G : gG} {d0 mi N x : Nat} {A : Nat → Prop} {q : Nat × va_E} {av : List Value} : FrameBlind (va_Pc av (fun S => S.heap.size = N ∧ va_at G.1 gCl q S.heap ∧ gAny S S.heap x ∧ gX G d0 mi A S)) := fun _ _ _ _ h => ⟨h.1, h.2.1, h.2.2.1, h.2.2.2.1, h.2.2.2.2.blind⟩
theorem nB_blind {G : gG} {N x : Nat} {q r : Nat × va_E} {av : List Value} : FrameBlind (va_Pc av (fun S => S.heap.size = N ∧ va_at G.1 gCl q S.heap ∧ va_at G.1 gCl r S.heap ∧ gAny S S.heap x ∧ gK G S)) := fun _ _ _ _ h => ⟨h.1, h.2.1, h.2.2.1, h.2.2.2.1, h.2.2.2.2.1, h.2.2.2.2.2.blind⟩
theorem hB_blind {G : gG} {d0 mi N x : Nat} {A P : Nat → Prop} {g : Nat → Nat} {q r : Nat × va_E} {av : List Value} : FrameBlind (va_Pc av (fun S => S.heap.size = N ∧ va_at G.1 gCl q S.heap ∧ va_at G.1 gCl r S.heap ∧ gAny S S.heap x ∧ (∀ i, P i → gAny S S.heap (g i)) ∧ gX G d0 mi A S)) := fun _ _ _ _ h => ⟨h.1, h.2.1, h.2.2.1, h.2.2.2.1, h.2.2.2.2.1, h.2.2.2.2.2.1, h.2.2.2.2.2.2.blind⟩
theorem eB_blind {G : gG} {N : Nat} {P : Nat → Prop} {g : Nat → Nat} {q r : Nat × va_E} {av : List Value} : FrameBlind (va_Pc av (fun S => S.heap.size = N ∧ va_at G.1 gCl q S.heap ∧ va_at G.1 gCl r S.heap ∧ (∀ i, P i → gAny S S.heap (g i)) ∧ gK G S)) := fun _ _ _ _ h => ⟨h.1, h.2.1, h.2.2.1, h.2.2.2.1, h.2.2.2.2.1, h.2.2.2.2.2.blind⟩
theorem pB_blind {av : List Value} {P : State → Prop} (hP : ∀ (U : State) (g : JFrame) (mk : MethodId) (a : Array Value), P U → P (U.calling g mk a)) : FrameBlind (va_Pc av P) := fun _ _ _ _ h => ⟨h.1, hP _ _ _ _ h.2⟩
set_option maxHeartbeats 4000000 in
set_option maxRecDepth 100000 in
theorem cJ_addHF (l : Launch) (G : gG) (d0 mi q x : Nat) (md : Int32) (N : Nat) (hxq : x ≠ q) : Met l yJx4a65c_add_72be8 (wB yJx4a65c_add_72be8 cJx4a65c_add_72be8 4 none) (rmL 5 1 10) (va_Pc [.ref q, .ref x, .ref d0, .int (nI 0)] (fun S => S.heap.size = N ∧ LO G q d0 0 md S.heap ∧ gAny S S.heap x ∧ gX G d0 mi (rvA q N) S)) (va_Qv (S := Nat) (fun _ => True) (fun z t => N ≤ z ∧ LO G q z 1 md t.heap ∧ LA G z 10 1 (fun _ => x) t.heap) (rvA q N)) 1 10 (rvA q N) := by
  refine st_N (own := RJx4a65c) (by decide +kernel) rfl (Nat.le_of_ble_eq_true rfl) ?_
  intro p e s m below meth c ls args Q hQ hC hr hlk hnm hl hP
  obtain ⟨hN, ho, hax, hX⟩ := hP
  have hK := hX.1
  have hqN : q < N := by rw [← hN]; exact ho.lt
  have hxN : x < N := by rw [← hN]; exact hax.lt
  have hx := hC.1
  have hb := hC.2.1
  have hl : lv_has ls 4 [(0, .ref q), (1, .ref x), (2, .ref d0), (3, .int (nI 0))] := hl
  obtain ⟨H, locs, hHe, hLe⟩ : ∃ (H : Heap) (locs : List Loc), H = s.heap ∧ locs = [] := ⟨_, _, rfl, rfl⟩
  have hS : va_S (rvA q N) s.heap H locs := by rw [hHe, hLe]; exact va_S.rf
  rw [← hHe] at ho
  rw [← hHe] at hax
  suffices hgo : W p l e (rmL 5 1 10) s m args below meth c H locs 0 0 Q (F0 m 0 ls []) by
    rw [hHe, hLe] at hgo
    exact hgo
  clear hLe
  refine lv_iload_n hx hb dJx4a65c_add_72be8_0 rfl (lv_at hl 3 rfl) ?_
  refine lv_aload_n hx hb dJx4a65c_add_72be8_1 rfl (lv_at hl 2 rfl) ?_
  refine va_tlen hx hb hX.2.2.2 hS (v := 0) rfl dJx4a65c_add_72be8_2 ?_
  refine ln_ne (tgt := 11) (a := 0) (b := 0) hx hb dJx4a65c_add_72be8_3 (by decide) rfl rfl (by omega) (by omega) (fun c => absurd rfl c) (fun _ => ?_)
  refine lv_aload_n hx hb dJx4a65c_add_72be8_6 rfl (lv_at hl 0 rfl) ?_
  refine va_callr (run_V hC (cJ_grow0F l G d0 mi q md N) (As := []) (rest := []) rfl rfl ml_Jx4a65c_129 im_Jx4a65c_grow_d5877 se_Jx4a65c_grow_d5877 ini_Jx4a65c cd_Jx4a65c_grow_d5877 ⟨rfl, na_Jx4a65c_grow_d5877⟩ xB_blind (ls_recv hK ho rfl) (fun U hU hW => ⟨by rw [hU, hHe]; exact hN, by rw [hU]; exact ho, hX.at hS (fun _ h => h) hU hW⟩) hl.1 (Nat.le_of_ble_eq_true rfl) ⟨Nat.le_of_ble_eq_true rfl, Nat.le_of_ble_eq_true rfl⟩ ⟨by show 0 + 1 ≤ 1; omega, by show 0 + 10 ≤ 10; omega⟩ rfl dJx4a65c_add_72be8_7) hS (fun z_ _ h => h) (fun z_ h => h) (fun _ z tt H1 locs1 ht_ _ _ hB_ hz1_ oq_ hS => ?_)
  rw [ht_] at hB_
  obtain ⟨hzN, ho, haz⟩ := hB_
  have hax := hax.kept (oq_ _ hax.lt (fun h => h.elim (fun e => hxq e) (fun e => by omega)))
  refine lv_astore_n (lv' := [(2, .ref z), (0, .ref q), (1, .ref x), (3, .int (nI 0))]) hx hb dJx4a65c_add_72be8_10 rfl hl (by decide) rfl (fun ls hl => ?_)
  refine lv_aload_n hx hb dJx4a65c_add_72be8_11 rfl (lv_at hl 0 rfl) ?_
  refine lv_iload_n hx hb dJx4a65c_add_72be8_12 rfl (lv_at hl 3 rfl) ?_
  refine lv_aload_n hx hb dJx4a65c_add_72be8_13 rfl (lv_at hl 2 rfl) ?_
  refine r2_qst hC hK haz hS (Or.inr hzN) hax (i := 0) (by omega) (by omega) dJx4a65c_add_72be8_14 (fun H locs haz z_ oq_ hS => ?_)
  have ho := ho.kept (oq_ _ (by omega))
  have hax := hax.kept (oq_ _ (fun e => by omega))
  clear z_ oq_
  have haz : va_at G.1 gCl (z, qE G 10 (lf 1 (fun _ => x))) H := qE_cg haz (fun j _ => up0_lf j)
  refine lv_aload_n hx hb dJx4a65c_add_72be8_15 rfl (lv_at hl 1 rfl) ?_
  refine lv_iload_n hx hb dJx4a65c_add_72be8_16 rfl (lv_at hl 3 rfl) ?_
  refine lv_iconst (v := 1) hx hb dJx4a65c_add_72be8_17 (by decide) ?_
  refine lv_iadd hx hb dJx4a65c_add_72be8_18 ?_
  refine top_i (y := nI (0 + 1)) (nI_add 0 1) ?_
  refine r2_put hC hK hS (Or.inl rfl) ho lay_Jx4a65c tyJx4a65c tyJx4a65c_ok nmJx4a65c rfl 2 (by decide) fl_Jx4a65c_48 (fun x hx => hx) rfl rfl rfl (Nat.le_of_ble_eq_true rfl) dJx4a65c_add_72be8_19 (fun H locs ho z_ oq_ hS => ?_)
  have ho : va_at G.1 gCl (q, .inr (10, [.int md, .ref z, .int (nI (0 + 1))])) H := ho
  have haz := haz.kept (oq_ _ (by omega))
  have hax := hax.kept (oq_ _ hxq)
  clear z_ oq_
  subst hQ
  exact rt_qv z hx hb hr hlk hS trivial (fun t ht _ => ⟨hzN, by rw [ht]; exact ho, by rw [ht]; exact haz⟩) (by show 0 + 1 ≤ 1; omega) (by show 0 + 10 ≤ 10; omega) dJx4a65c_add_72be8_22
set_option maxHeartbeats 4000000 in
set_option maxRecDepth 100000 in
theorem cJ_addHN (l : Launch) (G : gG) (q arr cap n x : Nat) (f : Nat → Nat) (md : Int32) (N : Nat) (hn : n < cap) (hcap : cap ≤ 40000) (hqa : arr ≠ q) (hxq : x ≠ q) (hxa : x ≠ arr) : Met l yJx4a65c_add_72be8 (wB yJx4a65c_add_72be8 cJx4a65c_add_72be8 4 none) (rmL 5 0 0) (va_Pc [.ref q, .ref x, .ref arr, .int (nI n)] (fun S => S.heap.size = N ∧ LO G q arr n md S.heap ∧ LA G arr cap n f S.heap ∧ gAny S S.heap x ∧ gK G S)) (va_Qv (S := Unit) (fun _ => True) (fun _ t => LO G q arr (n + 1) md t.heap ∧ LA G arr cap (n + 1) (fup f n x) t.heap) (rvB q arr N)) 0 0 (rvB q arr N) := by
  refine st_N (own := RJx4a65c) (by decide +kernel) rfl (Nat.le_of_ble_eq_true rfl) ?_
  intro p e s m below meth c ls args Q hQ hC hr hlk hnm hl hP
  obtain ⟨hN, ho, ha, hax, hK⟩ := hP
  have hx := hC.1
  have hb := hC.2.1
  have hl : lv_has ls 4 [(0, .ref q), (1, .ref x), (2, .ref arr), (3, .int (nI n))] := hl
  obtain ⟨H, locs, hHe, hLe⟩ : ∃ (H : Heap) (locs : List Loc), H = s.heap ∧ locs = [] := ⟨_, _, rfl, rfl⟩
  have hS : va_S (rvB q arr N) s.heap H locs := by rw [hHe, hLe]; exact va_S.rf
  rw [← hHe] at ho
  rw [← hHe] at ha
  rw [← hHe] at hax
  suffices hgo : W p l e (rmL 5 0 0) s m args below meth c H locs 0 0 Q (F0 m 0 ls []) by
    rw [hHe, hLe] at hgo
    exact hgo
  clear hLe
  refine lv_iload_n hx hb dJx4a65c_add_72be8_0 rfl (lv_at hl 3 rfl) ?_
  refine lv_aload_n hx hb dJx4a65c_add_72be8_1 rfl (lv_at hl 2 rfl) ?_
  refine r2_qlen hC hK ha dJx4a65c_add_72be8_2 ?_
  refine ln_ne (tgt := 11) (a := n) (b := cap) hx hb dJx4a65c_add_72be8_3 (by decide) rfl rfl (by omega) (by omega) (fun _ => ?_) (fun c => absurd c (by omega))
  refine lv_aload_n hx hb dJx4a65c_add_72be8_11 rfl (lv_at hl 2 rfl) ?_
  refine lv_iload_n hx hb dJx4a65c_add_72be8_12 rfl (lv_at hl 3 rfl) ?_
  refine lv_aload_n hx hb dJx4a65c_add_72be8_13 rfl (lv_at hl 1 rfl) ?_
  refine r2_qst hC hK ha hS (Or.inr (Or.inl rfl)) hax (i := n) (by omega) (by omega) dJx4a65c_add_72be8_14 (fun H locs ha z_ oq_ hS => ?_)
  have ho := ho.kept (oq_ _ hqa.symm)
  have hax := hax.kept (oq_ _ hxa)
  clear z_ oq_
  have ha : va_at G.1 gCl (arr, qE G cap (lf (n + 1) (fup f n x))) H := qE_cg ha (fun j _ => lf_up j)
  refine lv_aload_n hx hb dJx4a65c_add_72be8_15 rfl (lv_at hl 0 rfl) ?_
  refine lv_iload_n hx hb dJx4a65c_add_72be8_16 rfl (lv_at hl 3 rfl) ?_
  refine lv_iconst (v := 1) hx hb dJx4a65c_add_72be8_17 (by decide) ?_
  refine lv_iadd hx hb dJx4a65c_add_72be8_18 ?_
  refine top_i (y := nI (n + 1)) (nI_add n 1) ?_
  refine r2_put hC hK hS (Or.inl rfl) ho lay_Jx4a65c tyJx4a65c tyJx4a65c_ok nmJx4a65c rfl 2 (by decide) fl_Jx4a65c_48 (fun x hx => hx) rfl rfl rfl (Nat.le_of_ble_eq_true rfl) dJx4a65c_add_72be8_19 (fun H locs ho z_ oq_ hS => ?_)
  have ho : va_at G.1 gCl (q, .inr (10, [.int md, .ref arr, .int (nI (n + 1))])) H := ho
  have ha := ha.kept (oq_ _ hqa)
  have hax := hax.kept (oq_ _ hxq)
  clear z_ oq_
  subst hQ
  exact rt_qv () hx hb hr hlk hS trivial (fun t ht _ => ⟨by rw [ht]; exact ho, by rw [ht]; exact ha⟩) (by show 0 ≤ 0; omega) (by show 0 ≤ 0; omega) dJx4a65c_add_72be8_22
set_option maxHeartbeats 4000000 in
set_option maxRecDepth 100000 in
theorem cJ_addHG (l : Launch) (G : gG) (d0 mi q arr n x : Nat) (f : Nat → Nat) (md : Int32) (N : Nat) (h2 : 2 ≤ n) (h3 : n ≤ 20000) (hqa : arr ≠ q) (hxq : x ≠ q) (hxa : x ≠ arr) : Met l yJx4a65c_add_72be8 (wB yJx4a65c_add_72be8 cJx4a65c_add_72be8 4 none) (rmL 5 1 (n + n / 2)) (va_Pc [.ref q, .ref x, .ref arr, .int (nI n)] (fun S => S.heap.size = N ∧ LO G q arr n md S.heap ∧ LA G arr n n f S.heap ∧ gAny S S.heap x ∧ (∀ i, i < n → gAny S S.heap (f i)) ∧ gX G d0 mi (rvB q arr N) S)) (va_Qv (S := Nat) (fun _ => True) (fun z t => N ≤ z ∧ LO G q z (n + 1) md t.heap ∧ LA G z (n + n / 2) (n + 1) (fup f n x) t.heap) (rvB q arr N)) 1 (n + n / 2) (rvB q arr N) := by
  refine st_N (own := RJx4a65c) (by decide +kernel) rfl (Nat.le_of_ble_eq_true rfl) ?_
  intro p e s m below meth c ls args Q hQ hC hr hlk hnm hl hP
  obtain ⟨hN, ho, ha, hax, hel, hX⟩ := hP
  have hK := hX.1
  have hqN : q < N := by rw [← hN]; exact ho.lt
  have haN : arr < N := by rw [← hN]; exact ha.lt
  have hxN : x < N := by rw [← hN]; exact hax.lt
  have hx := hC.1
  have hb := hC.2.1
  have hl : lv_has ls 4 [(0, .ref q), (1, .ref x), (2, .ref arr), (3, .int (nI n))] := hl
  obtain ⟨H, locs, hHe, hLe⟩ : ∃ (H : Heap) (locs : List Loc), H = s.heap ∧ locs = [] := ⟨_, _, rfl, rfl⟩
  have hS : va_S (rvB q arr N) s.heap H locs := by rw [hHe, hLe]; exact va_S.rf
  rw [← hHe] at ho
  rw [← hHe] at ha
  rw [← hHe] at hel hax
  suffices hgo : W p l e (rmL 5 1 (n + n / 2)) s m args below meth c H locs 0 0 Q (F0 m 0 ls []) by
    rw [hHe, hLe] at hgo
    exact hgo
  clear hLe
  refine lv_iload_n hx hb dJx4a65c_add_72be8_0 rfl (lv_at hl 3 rfl) ?_
  refine lv_aload_n hx hb dJx4a65c_add_72be8_1 rfl (lv_at hl 2 rfl) ?_
  refine r2_qlen hC hK ha dJx4a65c_add_72be8_2 ?_
  refine ln_ne (tgt := 11) (a := n) (b := n) hx hb dJx4a65c_add_72be8_3 (by decide) rfl rfl (by omega) (by omega) (fun c => absurd rfl c) (fun _ => ?_)
  refine lv_aload_n hx hb dJx4a65c_add_72be8_6 rfl (lv_at hl 0 rfl) ?_
  refine va_callr (run_V hC (cJ_grow0G l G d0 mi q arr n f md N h2 h3 hqa) (As := []) (rest := []) rfl rfl ml_Jx4a65c_129 im_Jx4a65c_grow_d5877 se_Jx4a65c_grow_d5877 ini_Jx4a65c cd_Jx4a65c_grow_d5877 ⟨rfl, na_Jx4a65c_grow_d5877⟩ (yB_blind (P := fun i => i < n) (g := f)) (ls_recv hK ho rfl) (fun U hU hW => ⟨by rw [hU, hHe]; exact hN, by rw [hU]; exact ho, by rw [hU]; exact ha, fun i hi => by rw [hU]; exact gAny.moved hW.alike (hel i hi), hX.at hS (fun _ h => h) hU hW⟩) hl.1 (Nat.le_of_ble_eq_true rfl) ⟨Nat.le_of_ble_eq_true rfl, Nat.le_of_ble_eq_true rfl⟩ ⟨by show 0 + 1 ≤ 1; omega, by show 0 + (n + n / 2) ≤ n + n / 2; omega⟩ rfl dJx4a65c_add_72be8_7) hS (fun z_ _ h => h) (fun z_ h => h) (fun _ z tt H1 locs1 ht_ _ _ hB_ hz1_ oq_ hS => ?_)
  rw [ht_] at hB_
  obtain ⟨hzN, ho, haz⟩ := hB_
  have hax := hax.kept (oq_ _ hax.lt (fun h => h.elim (fun e => hxq e) (fun h => h.elim (fun e => hxa e) (fun e => by omega))))
  refine lv_astore_n (lv' := [(2, .ref z), (0, .ref q), (1, .ref x), (3, .int (nI n))]) hx hb dJx4a65c_add_72be8_10 rfl hl (by decide) rfl (fun ls hl => ?_)
  refine lv_aload_n hx hb dJx4a65c_add_72be8_11 rfl (lv_at hl 0 rfl) ?_
  refine lv_iload_n hx hb dJx4a65c_add_72be8_12 rfl (lv_at hl 3 rfl) ?_
  refine lv_aload_n hx hb dJx4a65c_add_72be8_13 rfl (lv_at hl 2 rfl) ?_
  refine r2_qst hC hK haz hS (Or.inr (Or.inr hzN)) hax (i := n) (by omega) (by omega) dJx4a65c_add_72be8_14 (fun H locs haz z_ oq_ hS => ?_)
  have ho := ho.kept (oq_ _ (by omega))
  have hax := hax.kept (oq_ _ (fun e => by omega))
  clear z_ oq_
  have haz : va_at G.1 gCl (z, qE G (n + n / 2) (lf (n + 1) (fup f n x))) H := qE_cg haz (fun j _ => lf_up j)
  refine lv_aload_n hx hb dJx4a65c_add_72be8_15 rfl (lv_at hl 1 rfl) ?_
  refine lv_iload_n hx hb dJx4a65c_add_72be8_16 rfl (lv_at hl 3 rfl) ?_
  refine lv_iconst (v := 1) hx hb dJx4a65c_add_72be8_17 (by decide) ?_
  refine lv_iadd hx hb dJx4a65c_add_72be8_18 ?_
  refine top_i (y := nI (n + 1)) (nI_add n 1) ?_
  refine r2_put hC hK hS (Or.inl rfl) ho lay_Jx4a65c tyJx4a65c tyJx4a65c_ok nmJx4a65c rfl 2 (by decide) fl_Jx4a65c_48 (fun x hx => hx) rfl rfl rfl (Nat.le_of_ble_eq_true rfl) dJx4a65c_add_72be8_19 (fun H locs ho z_ oq_ hS => ?_)
  have ho : va_at G.1 gCl (q, .inr (10, [.int md, .ref z, .int (nI (n + 1))])) H := ho
  have haz := haz.kept (oq_ _ (by omega))
  have hax := hax.kept (oq_ _ hxq)
  clear z_ oq_
  subst hQ
  exact rt_qv z hx hb hr hlk hS trivial (fun t ht _ => ⟨hzN, by rw [ht]; exact ho, by rw [ht]; exact haz⟩) (by show 0 + 1 ≤ 1; omega) (by show 0 + (n + n / 2) ≤ n + n / 2; omega) dJx4a65c_add_72be8_22
set_option maxHeartbeats 4000000 in
set_option maxRecDepth 100000 in
theorem cJ_addEF (l : Launch) (G : gG) (d0 mi q x : Nat) (md : Int32) (N : Nat) (hxq : x ≠ q) : Met l yJx4a65c_add_9ea2d (wB yJx4a65c_add_9ea2d cJx4a65c_add_9ea2d 2 (some .boolean)) (rmL 6 1 10) (va_Pc [.ref q, .ref x] (fun S => S.heap.size = N ∧ LO G q d0 0 md S.heap ∧ gAny S S.heap x ∧ gX G d0 mi (rvA q N) S)) (va_Qi (S := Nat) (fun _ _ => True) (fun z t => N ≤ z ∧ LO G q z 1 (md + 1) t.heap ∧ LA G z 10 1 (fun _ => x) t.heap) (rvA q N)) 1 10 (rvA q N) := by
  refine st_N (own := RJx4a65c) (by decide +kernel) rfl (Nat.le_of_ble_eq_true rfl) ?_
  intro p e s m below meth c ls args Q hQ hC hr hlk hnm hl hP
  obtain ⟨hN, ho, hax, hX⟩ := hP
  have hK := hX.1
  have hqN : q < N := by rw [← hN]; exact ho.lt
  have hxN : x < N := by rw [← hN]; exact hax.lt
  have hx := hC.1
  have hb := hC.2.1
  have hl : lv_has ls 2 [(0, .ref q), (1, .ref x)] := hl
  obtain ⟨H, locs, hHe, hLe⟩ : ∃ (H : Heap) (locs : List Loc), H = s.heap ∧ locs = [] := ⟨_, _, rfl, rfl⟩
  have hS : va_S (rvA q N) s.heap H locs := by rw [hHe, hLe]; exact va_S.rf
  rw [← hHe] at ho
  have hsz0 : H.size = s.heap.size := by rw [hHe]
  rw [← hHe] at hax
  suffices hgo : W p l e (rmL 6 1 10) s m args below meth c H locs 0 0 Q (F0 m 0 ls []) by
    rw [hHe, hLe] at hgo
    exact hgo
  clear hLe
  refine lv_aload_n hx hb dJx4a65c_add_9ea2d_0 rfl (lv_at hl 0 rfl) ?_
  refine lv_dup hx hb dJx4a65c_add_9ea2d_1 rfl ?_
  refine r1_get hC hK.1 ho lay_Jx4a65c rfl 0 (by decide) fl_Jx4a65c_63 (sf_mod hC) (v := .int md) rfl dJx4a65c_add_9ea2d_2 ?_
  refine lv_iconst (v := 1) hx hb dJx4a65c_add_9ea2d_5 (by decide) ?_
  refine lv_iadd hx hb dJx4a65c_add_9ea2d_6 ?_
  refine r2_put hC hK hS (Or.inl rfl) ho lay_Jx4a65c tyJx4a65c tyJx4a65c_ok nmJx4a65c rfl 0 (by decide) fl_Jx4a65c_63 (sf_mod hC) rfl rfl rfl (Nat.le_of_ble_eq_true rfl) dJx4a65c_add_9ea2d_7 (fun H locs ho z_ oq_ hS => ?_)
  have ho : va_at G.1 gCl (q, .inr (10, [.int (md + 1), .ref d0, .int (nI 0)])) H := ho
  have hax := hax.kept (oq_ _ hxq)
  have hsz0 : H.size = s.heap.size := z_.trans hsz0
  clear z_ oq_
  refine lv_aload_n hx hb dJx4a65c_add_9ea2d_10 rfl (lv_at hl 0 rfl) ?_
  refine lv_aload_n hx hb dJx4a65c_add_9ea2d_11 rfl (lv_at hl 1 rfl) ?_
  refine lv_aload_n hx hb dJx4a65c_add_9ea2d_12 rfl (lv_at hl 0 rfl) ?_
  refine r1_get hC hK.1 ho lay_Jx4a65c rfl 1 (by decide) fl_Jx4a65c_9 (fun x hx => hx) (v := .ref d0) rfl dJx4a65c_add_9ea2d_13 ?_
  refine lv_aload_n hx hb dJx4a65c_add_9ea2d_16 rfl (lv_at hl 0 rfl) ?_
  refine r1_get hC hK.1 ho lay_Jx4a65c rfl 2 (by decide) fl_Jx4a65c_48 (fun x hx => hx) (v := .int (nI 0)) rfl dJx4a65c_add_9ea2d_17 ?_
  refine va_callv (run_V hC (cJ_addHF l G d0 mi q x (md + 1) N hxq) (As := [.ref x, .ref d0, .int (nI 0)]) (rest := []) rfl rfl ml_Jx4a65c_131 im_Jx4a65c_add_72be8 se_Jx4a65c_add_72be8 ini_Jx4a65c cd_Jx4a65c_add_72be8 ⟨rfl, na_Jx4a65c_add_72be8⟩ fB_blind (ls_recv hK ho rfl) (fun U hU hW => ⟨by rw [hU, hsz0]; exact hN, by rw [hU]; exact ho, by rw [hU]; exact gAny.moved hW.alike hax, hX.at hS (fun _ h => h) hU hW⟩) hl.1 (Nat.le_of_ble_eq_true rfl) ⟨Nat.le_of_ble_eq_true rfl, Nat.le_of_ble_eq_true rfl⟩ ⟨by show 0 + 1 ≤ 1; omega, by show 0 + 10 ≤ 10; omega⟩ rfl dJx4a65c_add_9ea2d_20) hS (fun z_ _ h => h) (fun z_ h => h) (fun z tt H1 locs1 ht_ al_ _ hB_ hz1_ oq_ hS => ?_)
  rw [ht_] at hB_
  obtain ⟨hzN, ho, haz⟩ := hB_
  refine lv_iconst (v := 1) hx hb dJx4a65c_add_9ea2d_23 (by decide) ?_
  subst hQ
  exact rt_qz z true hx hb hr hlk hS rfl trivial (fun t ht _ => ⟨hzN, by rw [ht]; exact ho, by rw [ht]; exact haz⟩) (by show 0 + 1 ≤ 1; omega) (by show 0 + 10 ≤ 10; omega) dJx4a65c_add_9ea2d_24
set_option maxHeartbeats 4000000 in
set_option maxRecDepth 100000 in
theorem cJ_addEN (l : Launch) (G : gG) (q arr cap n x : Nat) (f : Nat → Nat) (md : Int32) (N : Nat) (hn : n < cap) (hcap : cap ≤ 40000) (hqa : arr ≠ q) (hxq : x ≠ q) (hxa : x ≠ arr) : Met l yJx4a65c_add_9ea2d (wB yJx4a65c_add_9ea2d cJx4a65c_add_9ea2d 2 (some .boolean)) (rmL 6 0 0) (va_Pc [.ref q, .ref x] (fun S => S.heap.size = N ∧ LO G q arr n md S.heap ∧ LA G arr cap n f S.heap ∧ gAny S S.heap x ∧ gK G S)) (va_Qi (S := Unit) (fun _ _ => True) (fun _ t => LO G q arr (n + 1) (md + 1) t.heap ∧ LA G arr cap (n + 1) (fup f n x) t.heap) (rvB q arr N)) 0 0 (rvB q arr N) := by
  refine st_N (own := RJx4a65c) (by decide +kernel) rfl (Nat.le_of_ble_eq_true rfl) ?_
  intro p e s m below meth c ls args Q hQ hC hr hlk hnm hl hP
  obtain ⟨hN, ho, ha, hax, hK⟩ := hP
  have hx := hC.1
  have hb := hC.2.1
  have hl : lv_has ls 2 [(0, .ref q), (1, .ref x)] := hl
  obtain ⟨H, locs, hHe, hLe⟩ : ∃ (H : Heap) (locs : List Loc), H = s.heap ∧ locs = [] := ⟨_, _, rfl, rfl⟩
  have hS : va_S (rvB q arr N) s.heap H locs := by rw [hHe, hLe]; exact va_S.rf
  rw [← hHe] at ho
  rw [← hHe] at ha
  have hsz0 : H.size = s.heap.size := by rw [hHe]
  rw [← hHe] at hax
  suffices hgo : W p l e (rmL 6 0 0) s m args below meth c H locs 0 0 Q (F0 m 0 ls []) by
    rw [hHe, hLe] at hgo
    exact hgo
  clear hLe
  refine lv_aload_n hx hb dJx4a65c_add_9ea2d_0 rfl (lv_at hl 0 rfl) ?_
  refine lv_dup hx hb dJx4a65c_add_9ea2d_1 rfl ?_
  refine r1_get hC hK.1 ho lay_Jx4a65c rfl 0 (by decide) fl_Jx4a65c_63 (sf_mod hC) (v := .int md) rfl dJx4a65c_add_9ea2d_2 ?_
  refine lv_iconst (v := 1) hx hb dJx4a65c_add_9ea2d_5 (by decide) ?_
  refine lv_iadd hx hb dJx4a65c_add_9ea2d_6 ?_
  refine r2_put hC hK hS (Or.inl rfl) ho lay_Jx4a65c tyJx4a65c tyJx4a65c_ok nmJx4a65c rfl 0 (by decide) fl_Jx4a65c_63 (sf_mod hC) rfl rfl rfl (Nat.le_of_ble_eq_true rfl) dJx4a65c_add_9ea2d_7 (fun H locs ho z_ oq_ hS => ?_)
  have ho : va_at G.1 gCl (q, .inr (10, [.int (md + 1), .ref arr, .int (nI n)])) H := ho
  have ha := ha.kept (oq_ _ hqa)
  have hax := hax.kept (oq_ _ hxq)
  have hsz0 : H.size = s.heap.size := z_.trans hsz0
  clear z_ oq_
  refine lv_aload_n hx hb dJx4a65c_add_9ea2d_10 rfl (lv_at hl 0 rfl) ?_
  refine lv_aload_n hx hb dJx4a65c_add_9ea2d_11 rfl (lv_at hl 1 rfl) ?_
  refine lv_aload_n hx hb dJx4a65c_add_9ea2d_12 rfl (lv_at hl 0 rfl) ?_
  refine r1_get hC hK.1 ho lay_Jx4a65c rfl 1 (by decide) fl_Jx4a65c_9 (fun x hx => hx) (v := .ref arr) rfl dJx4a65c_add_9ea2d_13 ?_
  refine lv_aload_n hx hb dJx4a65c_add_9ea2d_16 rfl (lv_at hl 0 rfl) ?_
  refine r1_get hC hK.1 ho lay_Jx4a65c rfl 2 (by decide) fl_Jx4a65c_48 (fun x hx => hx) (v := .int (nI n)) rfl dJx4a65c_add_9ea2d_17 ?_
  refine va_callv (run_V hC (cJ_addHN l G q arr cap n x f (md + 1) N hn hcap hqa hxq hxa) (As := [.ref x, .ref arr, .int (nI n)]) (rest := []) rfl rfl ml_Jx4a65c_131 im_Jx4a65c_add_72be8 se_Jx4a65c_add_72be8 ini_Jx4a65c cd_Jx4a65c_add_72be8 ⟨rfl, na_Jx4a65c_add_72be8⟩ nB_blind (ls_recv hK ho rfl) (fun U hU hW => ⟨by rw [hU, hsz0]; exact hN, by rw [hU]; exact ho, by rw [hU]; exact ha, by rw [hU]; exact gAny.moved hW.alike hax, hK.warm hW⟩) hl.1 (Nat.le_of_ble_eq_true rfl) ⟨Nat.le_of_ble_eq_true rfl, Nat.le_of_ble_eq_true rfl⟩ ⟨Nat.le_refl _, Nat.le_refl _⟩ rfl dJx4a65c_add_9ea2d_20) hS (fun z_ _ h => h) (fun z_ h => h) (fun _ tt H1 locs1 ht_ al_ _ hB_ hz1_ oq_ hS => ?_)
  rw [ht_] at hB_
  obtain ⟨ho, ha⟩ := hB_
  refine lv_iconst (v := 1) hx hb dJx4a65c_add_9ea2d_23 (by decide) ?_
  subst hQ
  exact rt_qz () true hx hb hr hlk hS rfl trivial (fun t ht _ => ⟨by rw [ht]; exact ho, by rw [ht]; exact ha⟩) (by show 0 + 0 ≤ 0; omega) (by show 0 + 0 ≤ 0; omega) dJx4a65c_add_9ea2d_24
set_option maxHeartbeats 4000000 in
set_option maxRecDepth 100000 in
theorem cJ_addEG (l : Launch) (G : gG) (d0 mi q arr n x : Nat) (f : Nat → Nat) (md : Int32) (N : Nat) (h2 : 2 ≤ n) (h3 : n ≤ 20000) (hqa : arr ≠ q) (hxq : x ≠ q) (hxa : x ≠ arr) (hel2 : ∀ i, i < n → f i ≠ q) : Met l yJx4a65c_add_9ea2d (wB yJx4a65c_add_9ea2d cJx4a65c_add_9ea2d 2 (some .boolean)) (rmL 6 1 (n + n / 2)) (va_Pc [.ref q, .ref x] (fun S => S.heap.size = N ∧ LO G q arr n md S.heap ∧ LA G arr n n f S.heap ∧ gAny S S.heap x ∧ (∀ i, i < n → gAny S S.heap (f i)) ∧ gX G d0 mi (rvB q arr N) S)) (va_Qi (S := Nat) (fun _ _ => True) (fun z t => N ≤ z ∧ LO G q z (n + 1) (md + 1) t.heap ∧ LA G z (n + n / 2) (n + 1) (fup f n x) t.heap) (rvB q arr N)) 1 (n + n / 2) (rvB q arr N) := by
  refine st_N (own := RJx4a65c) (by decide +kernel) rfl (Nat.le_of_ble_eq_true rfl) ?_
  intro p e s m below meth c ls args Q hQ hC hr hlk hnm hl hP
  obtain ⟨hN, ho, ha, hax, hel, hX⟩ := hP
  have hK := hX.1
  have hqN : q < N := by rw [← hN]; exact ho.lt
  have haN : arr < N := by rw [← hN]; exact ha.lt
  have hxN : x < N := by rw [← hN]; exact hax.lt
  have hx := hC.1
  have hb := hC.2.1
  have hl : lv_has ls 2 [(0, .ref q), (1, .ref x)] := hl
  obtain ⟨H, locs, hHe, hLe⟩ : ∃ (H : Heap) (locs : List Loc), H = s.heap ∧ locs = [] := ⟨_, _, rfl, rfl⟩
  have hS : va_S (rvB q arr N) s.heap H locs := by rw [hHe, hLe]; exact va_S.rf
  rw [← hHe] at ho
  rw [← hHe] at ha
  have hsz0 : H.size = s.heap.size := by rw [hHe]
  rw [← hHe] at hel hax
  suffices hgo : W p l e (rmL 6 1 (n + n / 2)) s m args below meth c H locs 0 0 Q (F0 m 0 ls []) by
    rw [hHe, hLe] at hgo
    exact hgo
  clear hLe
  refine lv_aload_n hx hb dJx4a65c_add_9ea2d_0 rfl (lv_at hl 0 rfl) ?_
  refine lv_dup hx hb dJx4a65c_add_9ea2d_1 rfl ?_
  refine r1_get hC hK.1 ho lay_Jx4a65c rfl 0 (by decide) fl_Jx4a65c_63 (sf_mod hC) (v := .int md) rfl dJx4a65c_add_9ea2d_2 ?_
  refine lv_iconst (v := 1) hx hb dJx4a65c_add_9ea2d_5 (by decide) ?_
  refine lv_iadd hx hb dJx4a65c_add_9ea2d_6 ?_
  refine r2_put hC hK hS (Or.inl rfl) ho lay_Jx4a65c tyJx4a65c tyJx4a65c_ok nmJx4a65c rfl 0 (by decide) fl_Jx4a65c_63 (sf_mod hC) rfl rfl rfl (Nat.le_of_ble_eq_true rfl) dJx4a65c_add_9ea2d_7 (fun H locs ho z_ oq_ hS => ?_)
  have ho : va_at G.1 gCl (q, .inr (10, [.int (md + 1), .ref arr, .int (nI n)])) H := ho
  have ha := ha.kept (oq_ _ hqa)
  have hax := hax.kept (oq_ _ hxq)
  have hel : ∀ i, i < n → gAny s H (f i) := fun i hi => (hel i hi).kept (oq_ _ (hel2 i hi))
  have hsz0 : H.size = s.heap.size := z_.trans hsz0
  clear z_ oq_
  refine lv_aload_n hx hb dJx4a65c_add_9ea2d_10 rfl (lv_at hl 0 rfl) ?_
  refine lv_aload_n hx hb dJx4a65c_add_9ea2d_11 rfl (lv_at hl 1 rfl) ?_
  refine lv_aload_n hx hb dJx4a65c_add_9ea2d_12 rfl (lv_at hl 0 rfl) ?_
  refine r1_get hC hK.1 ho lay_Jx4a65c rfl 1 (by decide) fl_Jx4a65c_9 (fun x hx => hx) (v := .ref arr) rfl dJx4a65c_add_9ea2d_13 ?_
  refine lv_aload_n hx hb dJx4a65c_add_9ea2d_16 rfl (lv_at hl 0 rfl) ?_
  refine r1_get hC hK.1 ho lay_Jx4a65c rfl 2 (by decide) fl_Jx4a65c_48 (fun x hx => hx) (v := .int (nI n)) rfl dJx4a65c_add_9ea2d_17 ?_
  refine va_callv (run_V hC (cJ_addHG l G d0 mi q arr n x f (md + 1) N h2 h3 hqa hxq hxa) (As := [.ref x, .ref arr, .int (nI n)]) (rest := []) rfl rfl ml_Jx4a65c_131 im_Jx4a65c_add_72be8 se_Jx4a65c_add_72be8 ini_Jx4a65c cd_Jx4a65c_add_72be8 ⟨rfl, na_Jx4a65c_add_72be8⟩ (hB_blind (P := fun i => i < n) (g := f)) (ls_recv hK ho rfl) (fun U hU hW => ⟨by rw [hU, hsz0]; exact hN, by rw [hU]; exact ho, by rw [hU]; exact ha, by rw [hU]; exact gAny.moved hW.alike hax, fun i hi => by rw [hU]; exact gAny.moved hW.alike (hel i hi), hX.at hS (fun _ h => h) hU hW⟩) hl.1 (Nat.le_of_ble_eq_true rfl) ⟨Nat.le_of_ble_eq_true rfl, Nat.le_of_ble_eq_true rfl⟩ ⟨by show 0 + 1 ≤ 1; omega, by show 0 + (n + n / 2) ≤ n + n / 2; omega⟩ rfl dJx4a65c_add_9ea2d_20) hS (fun z_ _ h => h) (fun z_ h => h) (fun z tt H1 locs1 ht_ al_ _ hB_ hz1_ oq_ hS => ?_)
  rw [ht_] at hB_
  obtain ⟨hzN, ho, haz⟩ := hB_
  refine lv_iconst (v := 1) hx hb dJx4a65c_add_9ea2d_23 (by decide) ?_
  subst hQ
  exact rt_qz z true hx hb hr hlk hS rfl trivial (fun t ht _ => ⟨hzN, by rw [ht]; exact ho, by rw [ht]; exact haz⟩) (by show 0 + 1 ≤ 1; omega) (by show 0 + (n + n / 2) ≤ n + n / 2; omega) dJx4a65c_add_9ea2d_24
