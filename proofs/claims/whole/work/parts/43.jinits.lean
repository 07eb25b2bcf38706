/-! CONSTRUCTORS, and a tray that is filled -/
theorem rvA_in {q N z N2 y : Nat} (h1 : N ≤ z) (h2 : N ≤ N2) (h : rvA z N2 y) : rvA q N y := Or.inr (h.elim (fun e => by rw [e]; exact h1) (fun e => Nat.le_trans h2 e))
theorem df_L : ∀ j, j < 3 → defaultValue (tyJx4a65c j) = vp_V [.int 0, .null, .int 0] j := fun j hj => by
  have : j = 0 ∨ j = 1 ∨ j = 2 := by omega
  rcases this with rfl | rfl | rfl <;> rfl
set_option maxHeartbeats 4000000 in
set_option maxRecDepth 100000 in
theorem cJ_X4_init (l : Launch) (G : gG) (q N : Nat) (a b : Nat) (t : Int32) : Met l yX4_init (wB yX4_init cX4_init 4 none) (rmL 1 0 0) (va_Pc [.ref q, .ref a, .ref b, .int t] (fun S => S.heap.size = N ∧ va_at G.1 gCl (q, .inr (4, [.null, .null, .int 0])) S.heap ∧ gK G S)) (va_Qv (S := Unit) (fun _ => True) (fun _ z9 => va_at G.1 gCl (q, .inr (4, [.ref a, .ref b, .int t])) z9.heap) (rvA q N)) 0 0 (rvA q N) := by
  refine st_N (own := RX4) (by decide +kernel) rfl (Nat.le_of_ble_eq_true rfl) ?_
  intro p e s m below meth c ls args Q hQ hC hr hlk hnm hl hP
  obtain ⟨hN, ho, hK⟩ := hP
  have hx := hC.1
  have hb := hC.2.1
  have hl : lv_has ls 4 [(0, .ref q), (1, .ref a), (2, .ref b), (3, .int t)] := hl
  obtain ⟨H, locs, hHe, hLe⟩ : ∃ (H : Heap) (locs : List Loc), H = s.heap ∧ locs = [] := ⟨_, _, rfl, rfl⟩
  have hS : va_S (rvA q N) s.heap H locs := by rw [hHe, hLe]; exact va_S.rf
  rw [← hHe] at ho
  suffices hgo : W p l e (rmL 1 0 0) s m args below meth c H locs 0 0 Q (F0 m 0 ls []) by
    rw [hHe, hLe] at hgo
    exact hgo
  clear hLe
  refine lv_aload_n hx hb dX4_init_0 rfl (lv_at hl 0 rfl) ?_
  refine r2_oinit hC ml_X4_1 hl.1 (Nat.le_of_ble_eq_true rfl) ⟨Nat.le_of_ble_eq_true rfl, Nat.le_of_ble_eq_true rfl⟩ dX4_init_1 ?_
  refine lv_aload_n hx hb dX4_init_4 rfl (lv_at hl 0 rfl) ?_
  refine lv_aload_n hx hb dX4_init_5 rfl (lv_at hl 1 rfl) ?_
  refine r2_putF hC hK hS (Or.inl rfl) ho lay_X4 tyX4 tyX4_ok nmX4 rfl 0 (by decide) fl_X4_7 (fun x hx => hx) rfl hnm rfl rfl rfl (Nat.le_of_ble_eq_true rfl) dX4_init_6 (fun H locs ho z_ oq_ hS => ?_)
  have ho : va_at G.1 gCl (q, .inr (4, [.ref a, .null, .int 0])) H := ho
  clear z_ oq_
  refine lv_aload_n hx hb dX4_init_9 rfl (lv_at hl 0 rfl) ?_
  refine lv_aload_n hx hb dX4_init_10 rfl (lv_at hl 2 rfl) ?_
  refine r2_putF hC hK hS (Or.inl rfl) ho lay_X4 tyX4 tyX4_ok nmX4 rfl 1 (by decide) fl_X4_13 (fun x hx => hx) rfl hnm rfl rfl rfl (Nat.le_of_ble_eq_true rfl) dX4_init_11 (fun H locs ho z_ oq_ hS => ?_)
  have ho : va_at G.1 gCl (q, .inr (4, [.ref a, .ref b, .int 0])) H := ho
  clear z_ oq_
  refine lv_aload_n hx hb dX4_init_14 rfl (lv_at hl 0 rfl) ?_
  refine lv_iload_n hx hb dX4_init_15 rfl (lv_at hl 3 rfl) ?_
  refine r2_putF hC hK hS (Or.inl rfl) ho lay_X4 tyX4 tyX4_ok nmX4 rfl 2 (by decide) fl_X4_17 (fun x hx => hx) rfl hnm rfl rfl rfl (Nat.le_of_ble_eq_true rfl) dX4_init_16 (fun H locs ho z_ oq_ hS => ?_)
  have ho : va_at G.1 gCl (q, .inr (4, [.ref a, .ref b, .int t])) H := ho
  clear z_ oq_
  subst hQ
  exact rt_qv () hx hb hr hlk hS trivial (fun t ht _ => by rw [ht]; exact ho) (by show 0 ≤ 0; omega) (by show 0 ≤ 0; omega) dX4_init_19
set_option maxHeartbeats 4000000 in
set_option maxRecDepth 100000 in
theorem cJ_X2_init (l : Launch) (G : gG) (q N : Nat) (a : Nat) (g n : Int32) : Met l yX2_init (wB yX2_init cX2_init 4 none) (rmL 1 0 0) (va_Pc [.ref q, .ref a, .int g, .int n] (fun S => S.heap.size = N ∧ va_at G.1 gCl (q, .inr (2, [.null, .int 0, .int 0, .null])) S.heap ∧ gK G S)) (va_Qv (S := Unit) (fun _ => True) (fun _ z9 => va_at G.1 gCl (q, .inr (2, [.ref a, .int g, .int n, .null])) z9.heap) (rvA q N)) 0 0 (rvA q N) := by
  refine st_N (own := RX2) (by decide +kernel) rfl (Nat.le_of_ble_eq_true rfl) ?_
  intro p e s m below meth c ls args Q hQ hC hr hlk hnm hl hP
  obtain ⟨hN, ho, hK⟩ := hP
  have hx := hC.1
  have hb := hC.2.1
  have hl : lv_has ls 4 [(0, .ref q), (1, .ref a), (2, .int g), (3, .int n)] := hl
  obtain ⟨H, locs, hHe, hLe⟩ : ∃ (H : Heap) (locs : List Loc), H = s.heap ∧ locs = [] := ⟨_, _, rfl, rfl⟩
  have hS : va_S (rvA q N) s.heap H locs := by rw [hHe, hLe]; exact va_S.rf
  rw [← hHe] at ho
  suffices hgo : W p l e (rmL 1 0 0) s m args below meth c H locs 0 0 Q (F0 m 0 ls []) by
    rw [hHe, hLe] at hgo
    exact hgo
  clear hLe
  refine lv_aload_n hx hb dX2_init_0 rfl (lv_at hl 0 rfl) ?_
  refine r2_oinit hC ml_X2_1 hl.1 (Nat.le_of_ble_eq_true rfl) ⟨Nat.le_of_ble_eq_true rfl, Nat.le_of_ble_eq_true rfl⟩ dX2_init_1 ?_
  refine lv_aload_n hx hb dX2_init_4 rfl (lv_at hl 0 rfl) ?_
  refine lv_null hx hb dX2_init_5 ?_
  refine r2_put hC hK hS (Or.inl rfl) ho lay_X2 tyX2 tyX2_ok nmX2 rfl 3 (by decide) fl_X2_7 (fun x hx => hx) rfl rfl rfl (Nat.le_of_ble_eq_true rfl) dX2_init_6 (fun H locs ho z_ oq_ hS => ?_)
  have ho : va_at G.1 gCl (q, .inr (2, [.null, .int 0, .int 0, .null])) H := ho
  clear z_ oq_
  refine lv_aload_n hx hb dX2_init_9 rfl (lv_at hl 0 rfl) ?_
  refine lv_aload_n hx hb dX2_init_10 rfl (lv_at hl 1 rfl) ?_
  refine r2_putF hC hK hS (Or.inl rfl) ho lay_X2 tyX2 tyX2_ok nmX2 rfl 0 (by decide) fl_X2_13 (fun x hx => hx) rfl hnm rfl rfl rfl (Nat.le_of_ble_eq_true rfl) dX2_init_11 (fun H locs ho z_ oq_ hS => ?_)
  have ho : va_at G.1 gCl (q, .inr (2, [.ref a, .int 0, .int 0, .null])) H := ho
  clear z_ oq_
  refine lv_aload_n hx hb dX2_init_14 rfl (lv_at hl 0 rfl) ?_
  refine lv_iload_n hx hb dX2_init_15 rfl (lv_at hl 2 rfl) ?_
  refine r2_putF hC hK hS (Or.inl rfl) ho lay_X2 tyX2 tyX2_ok nmX2 rfl 1 (by decide) fl_X2_17 (fun x hx => hx) rfl hnm rfl rfl rfl (Nat.le_of_ble_eq_true rfl) dX2_init_16 (fun H locs ho z_ oq_ hS => ?_)
  have ho : va_at G.1 gCl (q, .inr (2, [.ref a, .int g, .int 0, .null])) H := ho
  clear z_ oq_
  refine lv_aload_n hx hb dX2_init_19 rfl (lv_at hl 0 rfl) ?_
  refine lv_iload_n hx hb dX2_init_20 rfl (lv_at hl 3 rfl) ?_
  refine r2_put hC hK hS (Or.inl rfl) ho lay_X2 tyX2 tyX2_ok nmX2 rfl 2 (by decide) fl_X2_21 (fun x hx => hx) rfl rfl rfl (Nat.le_of_ble_eq_true rfl) dX2_init_21 (fun H locs ho z_ oq_ hS => ?_)
  have ho : va_at G.1 gCl (q, .inr (2, [.ref a, .int g, .int n, .null])) H := ho
  clear z_ oq_
  subst hQ
  exact rt_qv () hx hb hr hlk hS trivial (fun t ht _ => by rw [ht]; exact ho) (by show 0 ≤ 0; omega) (by show 0 ≤ 0; omega) dX2_init_24
set_option maxHeartbeats 4000000 in
set_option maxRecDepth 100000 in
theorem cJ_X7_init (l : Launch) (G : gG) (q N : Nat) (n h g : Int32) : Met l yX7_init (wB yX7_init cX7_init 4 none) (rmL 1 0 0) (va_Pc [.ref q, .int n, .int h, .int g] (fun S => S.heap.size = N ∧ va_at G.1 gCl (q, .inr (7, [.int 0, .int 0, .int 0, .int 0, .int 0])) S.heap ∧ gK G S)) (va_Qv (S := Unit) (fun _ => True) (fun _ z9 => va_at G.1 gCl (q, .inr (7, [.int n, .int h, .int g, .int 0, .int 0])) z9.heap) (rvA q N)) 0 0 (rvA q N) := by
  refine st_N (own := RX7) (by decide +kernel) rfl (Nat.le_of_ble_eq_true rfl) ?_
  intro p e s m below meth c ls args Q hQ hC hr hlk hnm hl hP
  obtain ⟨hN, ho, hK⟩ := hP
  have hx := hC.1
  have hb := hC.2.1
  have hl : lv_has ls 4 [(0, .ref q), (1, .int n), (2, .int h), (3, .int g)] := hl
  obtain ⟨H, locs, hHe, hLe⟩ : ∃ (H : Heap) (locs : List Loc), H = s.heap ∧ locs = [] := ⟨_, _, rfl, rfl⟩
  have hS : va_S (rvA q N) s.heap H locs := by rw [hHe, hLe]; exact va_S.rf
  rw [← hHe] at ho
  suffices hgo : W p l e (rmL 1 0 0) s m args below meth c H locs 0 0 Q (F0 m 0 ls []) by
    rw [hHe, hLe] at hgo
    exact hgo
  clear hLe
  refine lv_aload_n hx hb dX7_init_0 rfl (lv_at hl 0 rfl) ?_
  refine r2_oinit hC ml_X7_1 hl.1 (Nat.le_of_ble_eq_true rfl) ⟨Nat.le_of_ble_eq_true rfl, Nat.le_of_ble_eq_true rfl⟩ dX7_init_1 ?_
  refine lv_aload_n hx hb dX7_init_4 rfl (lv_at hl 0 rfl) ?_
  refine lv_iconst (v := 0) hx hb dX7_init_5 (by decide) ?_
  refine r2_put hC hK hS (Or.inl rfl) ho lay_X7 tyX7 tyX7_ok nmX7 rfl 3 (by decide) fl_X7_7 (fun x hx => hx) rfl rfl rfl (Nat.le_of_ble_eq_true rfl) dX7_init_6 (fun H locs ho z_ oq_ hS => ?_)
  have ho : va_at G.1 gCl (q, .inr (7, [.int 0, .int 0, .int 0, .int 0, .int 0])) H := ho
  clear z_ oq_
  refine lv_aload_n hx hb dX7_init_9 rfl (lv_at hl 0 rfl) ?_
  refine lv_iconst (v := 0) hx hb dX7_init_10 (by decide) ?_
  refine r2_put hC hK hS (Or.inl rfl) ho lay_X7 tyX7 tyX7_ok nmX7 rfl 4 (by decide) fl_X7_13 (fun x hx => hx) rfl rfl rfl (Nat.le_of_ble_eq_true rfl) dX7_init_11 (fun H locs ho z_ oq_ hS => ?_)
  have ho : va_at G.1 gCl (q, .inr (7, [.int 0, .int 0, .int 0, .int 0, .int 0])) H := ho
  clear z_ oq_
  refine lv_aload_n hx hb dX7_init_14 rfl (lv_at hl 0 rfl) ?_
  refine lv_iload_n hx hb dX7_init_15 rfl (lv_at hl 1 rfl) ?_
  refine r2_putF hC hK hS (Or.inl rfl) ho lay_X7 tyX7 tyX7_ok nmX7 rfl 0 (by decide) fl_X7_16 (fun x hx => hx) rfl hnm rfl rfl rfl (Nat.le_of_ble_eq_true rfl) dX7_init_16 (fun H locs ho z_ oq_ hS => ?_)
  have ho : va_at G.1 gCl (q, .inr (7, [.int n, .int 0, .int 0, .int 0, .int 0])) H := ho
  clear z_ oq_
  refine lv_aload_n hx hb dX7_init_19 rfl (lv_at hl 0 rfl) ?_
  refine lv_iload_n hx hb dX7_init_20 rfl (lv_at hl 2 rfl) ?_
  refine r2_putF hC hK hS (Or.inl rfl) ho lay_X7 tyX7 tyX7_ok nmX7 rfl 1 (by decide) fl_X7_19 (fun x hx => hx) rfl hnm rfl rfl rfl (Nat.le_of_ble_eq_true rfl) dX7_init_21 (fun H locs ho z_ oq_ hS => ?_)
  have ho : va_at G.1 gCl (q, .inr (7, [.int n, .int h, .int 0, .int 0, .int 0])) H := ho
  clear z_ oq_
  refine lv_aload_n hx hb dX7_init_24 rfl (lv_at hl 0 rfl) ?_
  refine lv_iload_n hx hb dX7_init_25 rfl (lv_at hl 3 rfl) ?_
  refine r2_putF hC hK hS (Or.inl rfl) ho lay_X7 tyX7 tyX7_ok nmX7 rfl 2 (by decide) fl_X7_22 (fun x hx => hx) rfl hnm rfl rfl rfl (Nat.le_of_ble_eq_true rfl) dX7_init_26 (fun H locs ho z_ oq_ hS => ?_)
  have ho : va_at G.1 gCl (q, .inr (7, [.int n, .int h, .int g, .int 0, .int 0])) H := ho
  clear z_ oq_
  subst hQ
  exact rt_qv () hx hb hr hlk hS trivial (fun t ht _ => by rw [ht]; exact ho) (by show 0 ≤ 0; omega) (by show 0 ≤ 0; omega) dX7_init_29
set_option maxHeartbeats 4000000 in
set_option maxRecDepth 100000 in
theorem cJ_X5_init (l : Launch) (G : gG) (q N : Nat) (n c0 k : Int32) : Met l yX5_init (wB yX5_init cX5_init 4 none) (rmL 1 0 0) (va_Pc [.ref q, .int n, .int c0, .int k] (fun S => S.heap.size = N ∧ va_at G.1 gCl (q, .inr (5, [.int 0, .int 0, .int 0, .int 0, .null, .null, .int 0, .int 0, .int 0])) S.heap ∧ gK G S)) (va_Qv (S := Unit) (fun _ => True) (fun _ z9 => va_at G.1 gCl (q, .inr (5, [.int n, .int k, .int c0, .int 0, .null, .null, .int (-1), .int 0, .int (-1)])) z9.heap) (rvA q N)) 0 0 (rvA q N) := by
  refine st_N (own := RX5) (by decide +kernel) rfl (Nat.le_of_ble_eq_true rfl) ?_
  intro p e s m below meth c ls args Q hQ hC hr hlk hnm hl hP
  obtain ⟨hN, ho, hK⟩ := hP
  have hx := hC.1
  have hb := hC.2.1
  have hl : lv_has ls 4 [(0, .ref q), (1, .int n), (2, .int c0), (3, .int k)] := hl
  obtain ⟨H, locs, hHe, hLe⟩ : ∃ (H : Heap) (locs : List Loc), H = s.heap ∧ locs = [] := ⟨_, _, rfl, rfl⟩
  have hS : va_S (rvA q N) s.heap H locs := by rw [hHe, hLe]; exact va_S.rf
  rw [← hHe] at ho
  suffices hgo : W p l e (rmL 1 0 0) s m args below meth c H locs 0 0 Q (F0 m 0 ls []) by
    rw [hHe, hLe] at hgo
    exact hgo
  clear hLe
  refine lv_aload_n hx hb dX5_init_0 rfl (lv_at hl 0 rfl) ?_
  refine r2_oinit hC ml_X5_3 hl.1 (Nat.le_of_ble_eq_true rfl) ⟨Nat.le_of_ble_eq_true rfl, Nat.le_of_ble_eq_true rfl⟩ dX5_init_1 ?_
  refine lv_aload_n hx hb dX5_init_4 rfl (lv_at hl 0 rfl) ?_
  refine lv_iconst (v := 0) hx hb dX5_init_5 (by decide) ?_
  refine r2_put hC hK hS (Or.inl rfl) ho lay_X5 tyX5 tyX5_ok nmX5 rfl 3 (by decide) fl_X5_9 (fun x hx => hx) rfl rfl rfl (Nat.le_of_ble_eq_true rfl) dX5_init_6 (fun H locs ho z_ oq_ hS => ?_)
  have ho : va_at G.1 gCl (q, .inr (5, [.int 0, .int 0, .int 0, .int 0, .null, .null, .int 0, .int 0, .int 0])) H := ho
  clear z_ oq_
  refine lv_aload_n hx hb dX5_init_9 rfl (lv_at hl 0 rfl) ?_
  refine lv_null hx hb dX5_init_10 ?_
  refine r2_put hC hK hS (Or.inl rfl) ho lay_X5 tyX5 tyX5_ok nmX5 rfl 4 (by decide) fl_X5_15 (fun x hx => hx) rfl rfl rfl (Nat.le_of_ble_eq_true rfl) dX5_init_11 (fun H locs ho z_ oq_ hS => ?_)
  have ho : va_at G.1 gCl (q, .inr (5, [.int 0, .int 0, .int 0, .int 0, .null, .null, .int 0, .int 0, .int 0])) H := ho
  clear z_ oq_
  refine lv_aload_n hx hb dX5_init_14 rfl (lv_at hl 0 rfl) ?_
  refine lv_null hx hb dX5_init_15 ?_
  refine r2_put hC hK hS (Or.inl rfl) ho lay_X5 tyX5 tyX5_ok nmX5 rfl 5 (by decide) fl_X5_19 (fun x hx => hx) rfl rfl rfl (Nat.le_of_ble_eq_true rfl) dX5_init_16 (fun H locs ho z_ oq_ hS => ?_)
  have ho : va_at G.1 gCl (q, .inr (5, [.int 0, .int 0, .int 0, .int 0, .null, .null, .int 0, .int 0, .int 0])) H := ho
  clear z_ oq_
  refine lv_aload_n hx hb dX5_init_19 rfl (lv_at hl 0 rfl) ?_
  refine lv_iconst (v := (-1)) hx hb dX5_init_20 (by decide) ?_
  refine r2_put hC hK hS (Or.inl rfl) ho lay_X5 tyX5 tyX5_ok nmX5 rfl 6 (by decide) fl_X5_23 (fun x hx => hx) rfl rfl rfl (Nat.le_of_ble_eq_true rfl) dX5_init_21 (fun H locs ho z_ oq_ hS => ?_)
  have ho : va_at G.1 gCl (q, .inr (5, [.int 0, .int 0, .int 0, .int 0, .null, .null, .int (-1), .int 0, .int 0])) H := ho
  clear z_ oq_
  refine lv_aload_n hx hb dX5_init_24 rfl (lv_at hl 0 rfl) ?_
  refine lv_iconst (v := 0) hx hb dX5_init_25 (by decide) ?_
  refine r2_put hC hK hS (Or.inl rfl) ho lay_X5 tyX5 tyX5_ok nmX5 rfl 7 (by decide) fl_X5_26 (fun x hx => hx) rfl rfl rfl (Nat.le_of_ble_eq_true rfl) dX5_init_26 (fun H locs ho z_ oq_ hS => ?_)
  have ho : va_at G.1 gCl (q, .inr (5, [.int 0, .int 0, .int 0, .int 0, .null, .null, .int (-1), .int 0, .int 0])) H := ho
  clear z_ oq_
  refine lv_aload_n hx hb dX5_init_29 rfl (lv_at hl 0 rfl) ?_
  refine lv_iconst (v := (-1)) hx hb dX5_init_30 (by decide) ?_
  refine r2_put hC hK hS (Or.inl rfl) ho lay_X5 tyX5 tyX5_ok nmX5 rfl 8 (by decide) fl_X5_29 (fun x hx => hx) rfl rfl rfl (Nat.le_of_ble_eq_true rfl) dX5_init_31 (fun H locs ho z_ oq_ hS => ?_)
  have ho : va_at G.1 gCl (q, .inr (5, [.int 0, .int 0, .int 0, .int 0, .null, .null, .int (-1), .int 0, .int (-1)])) H := ho
  clear z_ oq_
  refine lv_aload_n hx hb dX5_init_34 rfl (lv_at hl 0 rfl) ?_
  refine lv_iload_n hx hb dX5_init_35 rfl (lv_at hl 1 rfl) ?_
  refine r2_putF hC hK hS (Or.inl rfl) ho lay_X5 tyX5 tyX5_ok nmX5 rfl 0 (by decide) fl_X5_32 (fun x hx => hx) rfl hnm rfl rfl rfl (Nat.le_of_ble_eq_true rfl) dX5_init_36 (fun H locs ho z_ oq_ hS => ?_)
  have ho : va_at G.1 gCl (q, .inr (5, [.int n, .int 0, .int 0, .int 0, .null, .null, .int (-1), .int 0, .int (-1)])) H := ho
  clear z_ oq_
  refine lv_aload_n hx hb dX5_init_39 rfl (lv_at hl 0 rfl) ?_
  refine lv_iload_n hx hb dX5_init_40 rfl (lv_at hl 2 rfl) ?_
  refine r2_put hC hK hS (Or.inl rfl) ho lay_X5 tyX5 tyX5_ok nmX5 rfl 2 (by decide) fl_X5_35 (fun x hx => hx) rfl rfl rfl (Nat.le_of_ble_eq_true rfl) dX5_init_41 (fun H locs ho z_ oq_ hS => ?_)
  have ho : va_at G.1 gCl (q, .inr (5, [.int n, .int 0, .int c0, .int 0, .null, .null, .int (-1), .int 0, .int (-1)])) H := ho
  clear z_ oq_
  refine lv_aload_n hx hb dX5_init_44 rfl (lv_at hl 0 rfl) ?_
  refine lv_iload_n hx hb dX5_init_45 rfl (lv_at hl 3 rfl) ?_
  refine r2_putF hC hK hS (Or.inl rfl) ho lay_X5 tyX5 tyX5_ok nmX5 rfl 1 (by decide) fl_X5_38 (fun x hx => hx) rfl hnm rfl rfl rfl (Nat.le_of_ble_eq_true rfl) dX5_init_46 (fun H locs ho z_ oq_ hS => ?_)
  have ho : va_at G.1 gCl (q, .inr (5, [.int n, .int k, .int c0, .int 0, .null, .null, .int (-1), .int 0, .int (-1)])) H := ho
  clear z_ oq_
  subst hQ
  exact rt_qv () hx hb hr hlk hS trivial (fun t ht _ => by rw [ht]; exact ho) (by show 0 ≤ 0; omega) (by show 0 ≤ 0; omega) dX5_init_49
set_option maxHeartbeats 4000000 in
set_option maxRecDepth 100000 in
theorem cJ_X1_init (l : Launch) (G : gG) (q N : Nat) : Met l yX1_init (wB yX1_init cX1_init 1 none) (rmL 1 0 0) (va_Pc [.ref q] (fun S => S.heap.size = N ∧ va_at G.1 gCl (q, .inr (1, [.long 0, .long 0, .long 0])) S.heap ∧ gK G S)) (va_Qv (S := Unit) (fun _ => True) (fun _ z9 => va_at G.1 gCl (q, .inr (1, [.long 0, .long 0, .long 0])) z9.heap) (rvA q N)) 0 0 (rvA q N) := by
  refine st_N (own := RX1) (by decide +kernel) rfl (Nat.le_of_ble_eq_true rfl) ?_
  intro p e s m below meth c ls args Q hQ hC hr hlk hnm hl hP
  obtain ⟨hN, ho, hK⟩ := hP
  have hx := hC.1
  have hb := hC.2.1
  have hl : lv_has ls 1 [(0, .ref q)] := hl
  obtain ⟨H, locs, hHe, hLe⟩ : ∃ (H : Heap) (locs : List Loc), H = s.heap ∧ locs = [] := ⟨_, _, rfl, rfl⟩
  have hS : va_S (rvA q N) s.heap H locs := by rw [hHe, hLe]; exact va_S.rf
  rw [← hHe] at ho
  suffices hgo : W p l e (rmL 1 0 0) s m args below meth c H locs 0 0 Q (F0 m 0 ls []) by
    rw [hHe, hLe] at hgo
    exact hgo
  clear hLe
  refine lv_aload_n hx hb dX1_init_0 rfl (lv_at hl 0 rfl) ?_
  refine r2_oinit hC ml_X1_5 hl.1 (Nat.le_of_ble_eq_true rfl) ⟨Nat.le_of_ble_eq_true rfl, Nat.le_of_ble_eq_true rfl⟩ dX1_init_1 ?_
  refine lv_aload_n hx hb dX1_init_4 rfl (lv_at hl 0 rfl) ?_
  refine lv_lconst (v := 0) hx hb dX1_init_5 (by decide) ?_
  refine r2_put hC hK hS (Or.inl rfl) ho lay_X1 tyX1 tyX1_ok nmX1 rfl 0 (by decide) fl_X1_11 (fun x hx => hx) rfl rfl rfl (Nat.le_of_ble_eq_true rfl) dX1_init_6 (fun H locs ho z_ oq_ hS => ?_)
  have ho : va_at G.1 gCl (q, .inr (1, [.long 0, .long 0, .long 0])) H := ho
  clear z_ oq_
  refine lv_aload_n hx hb dX1_init_9 rfl (lv_at hl 0 rfl) ?_
  refine lv_lconst (v := 0) hx hb dX1_init_10 (by decide) ?_
  refine r2_put hC hK hS (Or.inl rfl) ho lay_X1 tyX1 tyX1_ok nmX1 rfl 1 (by decide) fl_X1_15 (fun x hx => hx) rfl rfl rfl (Nat.le_of_ble_eq_true rfl) dX1_init_11 (fun H locs ho z_ oq_ hS => ?_)
  have ho : va_at G.1 gCl (q, .inr (1, [.long 0, .long 0, .long 0])) H := ho
  clear z_ oq_
  refine lv_aload_n hx hb dX1_init_14 rfl (lv_at hl 0 rfl) ?_
  refine lv_lconst (v := 0) hx hb dX1_init_15 (by decide) ?_
  refine r2_put hC hK hS (Or.inl rfl) ho lay_X1 tyX1 tyX1_ok nmX1 rfl 2 (by decide) fl_X1_18 (fun x hx => hx) rfl rfl rfl (Nat.le_of_ble_eq_true rfl) dX1_init_16 (fun H locs ho z_ oq_ hS => ?_)
  have ho : va_at G.1 gCl (q, .inr (1, [.long 0, .long 0, .long 0])) H := ho
  clear z_ oq_
  subst hQ
  exact rt_qv () hx hb hr hlk hS trivial (fun t ht _ => by rw [ht]; exact ho) (by show 0 ≤ 0; omega) (by show 0 ≤ 0; omega) dX1_init_19
set_option maxHeartbeats 4000000 in
set_option maxRecDepth 100000 in
theorem cJ_X3_init (l : Launch) (G : gG) (d0 mi q N : Nat) (n : Int32) : Met l yX3_init (wB yX3_init cX3_init 2 none) (rmL 4 1 3) (va_Pc [.ref q, .int n] (fun S => S.heap.size = N ∧ va_at G.1 gCl (q, .inr (3, [.int 0, .null])) S.heap ∧ gX G d0 mi (rvA q N) S)) (va_Qv (S := Nat) (fun _ => True) (fun z z9 => N ≤ z ∧ va_at G.1 gCl (q, .inr (3, [.int n, .ref z])) z9.heap ∧ LO G z d0 0 0 z9.heap) (rvA q N)) 1 3 (rvA q N) := by
  refine st_N (own := RX3) (by decide +kernel) rfl (Nat.le_of_ble_eq_true rfl) ?_
  intro p e s m below meth c ls args Q hQ hC hr hlk hnm hl hP
  obtain ⟨hN, ho, hX⟩ := hP
  have hK := hX.1
  have hqN : q < N := by rw [← hN]; exact ho.lt
  have hx := hC.1
  have hb := hC.2.1
  have hl : lv_has ls 2 [(0, .ref q), (1, .int n)] := hl
  obtain ⟨H, locs, hHe, hLe⟩ : ∃ (H : Heap) (locs : List Loc), H = s.heap ∧ locs = [] := ⟨_, _, rfl, rfl⟩
  have hS : va_S (rvA q N) s.heap H locs := by rw [hHe, hLe]; exact va_S.rf
  rw [← hHe] at ho
  suffices hgo : W p l e (rmL 4 1 3) s m args below meth c H locs 0 0 Q (F0 m 0 ls []) by
    rw [hHe, hLe] at hgo
    exact hgo
  clear hLe
  refine lv_aload_n hx hb dX3_init_0 rfl (lv_at hl 0 rfl) ?_
  refine r2_oinit hC ml_X3_1 hl.1 (Nat.le_of_ble_eq_true rfl) ⟨Nat.le_of_ble_eq_true rfl, Nat.le_of_ble_eq_true rfl⟩ dX3_init_1 ?_
  refine lv_aload_n hx hb dX3_init_4 rfl (lv_at hl 0 rfl) ?_
  have hsz_ : N ≤ H.size := by have := hS.1; omega
  refine r2_new hC hK hS lay_Jx4a65c tyJx4a65c tyJx4a65c_ok cl_X3_7 is_Jx4a65c ini_Jx4a65c (ci := 10) rfl (fs := [.int 0, .null, .int 0]) df_L (by show 0 + 1 ≤ 1; omega) (by show 0 + 3 ≤ 3; omega) dX3_init_5 (fun z H hz_ haz hz1_ oq_ hS => ?_)
  have hzN_z : N ≤ z := by rw [hz_]; exact hsz_
  have ho := ho.kept (oq_ _ ho.lt)
  have hsz_ : N ≤ H.size := by omega
  refine lv_dup hx hb dX3_init_8 rfl ?_
  refine va_callv (run_I hC (cJ_Jx4a65c_init_da8c8 l G d0 mi z H.size) (As := []) (rest := [.ref z, .ref q]) rfl rfl ml_X3_9 im_Jx4a65c_init_da8c8 ini_Jx4a65c cd_Jx4a65c_init_da8c8 rfl na_Jx4a65c_init_da8c8 xB_blind (fun U hU hW => ⟨by rw [hU], by rw [hU]; exact haz, hX.at hS (fun y h => rvA_in hzN_z hsz_ h) hU hW⟩) hl.1 (Nat.le_of_ble_eq_true rfl) ⟨Nat.le_of_ble_eq_true rfl, Nat.le_of_ble_eq_true rfl⟩ ⟨by show (0 + 1) + 0 ≤ 1; omega, by show (0 + 3) + 0 ≤ 3; omega⟩ rfl dX3_init_9) hS (fun z_ _ h => rvA_in hzN_z hsz_ h) (fun z_ h => rvA_in hzN_z hsz_ h) (fun _ tt H1 locs1 ht_ al_ _ hB_ hz1_ oq_ hS => ?_)
  rw [ht_] at hB_
  have ho := ho.kept (oq_ _ ho.lt (fun h => h.elim (fun e => by omega) (fun e => absurd ho.lt (by dsimp only; omega))))
  have haz : LO G z d0 0 0 H1 := hB_
  refine r2_putF hC hK hS (Or.inl rfl) ho lay_X3 tyX3 tyX3_ok nmX3 rfl 1 (by decide) fl_X3_10 (fun x hx => hx) rfl hnm rfl rfl rfl (Nat.le_of_ble_eq_true rfl) dX3_init_12 (fun H locs ho z_ oq_ hS => ?_)
  have ho : va_at G.1 gCl (q, .inr (3, [.int 0, .ref z])) H := ho
  have haz := haz.kept (oq_ _ (by omega))
  clear z_ oq_
  refine lv_aload_n hx hb dX3_init_15 rfl (lv_at hl 0 rfl) ?_
  refine lv_iload_n hx hb dX3_init_16 rfl (lv_at hl 1 rfl) ?_
  refine r2_putF hC hK hS (Or.inl rfl) ho lay_X3 tyX3 tyX3_ok nmX3 rfl 0 (by decide) fl_X3_16 (fun x hx => hx) rfl hnm rfl rfl rfl (Nat.le_of_ble_eq_true rfl) dX3_init_17 (fun H locs ho z_ oq_ hS => ?_)
  have ho : va_at G.1 gCl (q, .inr (3, [.int n, .ref z])) H := ho
  have haz := haz.kept (oq_ _ (by omega))
  clear z_ oq_
  subst hQ
  exact rt_qv z hx hb hr hlk hS trivial (fun t ht _ => ⟨hzN_z, by rw [ht]; exact ho, by rw [ht]; exact haz⟩) (by show 0 + 1 ≤ 1; omega) (by show 0 + 3 ≤ 3; omega) dX3_init_20
set_option maxHeartbeats 4000000 in
set_option maxRecDepth 100000 in
theorem cJ_X6_init (l : Launch) (G : gG) (d0 mi q N : Nat) (n c0 : Int32) : Met l yX6_init (wB yX6_init cX6_init 3 none) (rmL 4 1 3) (va_Pc [.ref q, .int n, .int c0] (fun S => S.heap.size = N ∧ va_at G.1 gCl (q, .inr (6, [.int 0, .int 0, .null])) S.heap ∧ gX G d0 mi (rvA q N) S)) (va_Qv (S := Nat) (fun _ => True) (fun z z9 => N ≤ z ∧ va_at G.1 gCl (q, .inr (6, [.int n, .int c0, .ref z])) z9.heap ∧ LO G z d0 0 0 z9.heap) (rvA q N)) 1 3 (rvA q N) := by
  refine st_N (own := RX6) (by decide +kernel) rfl (Nat.le_of_ble_eq_true rfl) ?_
  intro p e s m below meth c ls args Q hQ hC hr hlk hnm hl hP
  obtain ⟨hN, ho, hX⟩ := hP
  have hK := hX.1
  have hqN : q < N := by rw [← hN]; exact ho.lt
  have hx := hC.1
  have hb := hC.2.1
  have hl : lv_has ls 3 [(0, .ref q), (1, .int n), (2, .int c0)] := hl
  obtain ⟨H, locs, hHe, hLe⟩ : ∃ (H : Heap) (locs : List Loc), H = s.heap ∧ locs = [] := ⟨_, _, rfl, rfl⟩
  have hS : va_S (rvA q N) s.heap H locs := by rw [hHe, hLe]; exact va_S.rf
  rw [← hHe] at ho
  suffices hgo : W p l e (rmL 4 1 3) s m args below meth c H locs 0 0 Q (F0 m 0 ls []) by
    rw [hHe, hLe] at hgo
    exact hgo
  clear hLe
  refine lv_aload_n hx hb dX6_init_0 rfl (lv_at hl 0 rfl) ?_
  refine r2_oinit hC ml_X6_1 hl.1 (Nat.le_of_ble_eq_true rfl) ⟨Nat.le_of_ble_eq_true rfl, Nat.le_of_ble_eq_true rfl⟩ dX6_init_1 ?_
  refine lv_aload_n hx hb dX6_init_4 rfl (lv_at hl 0 rfl) ?_
  have hsz_ : N ≤ H.size := by have := hS.1; omega
  refine r2_new hC hK hS lay_Jx4a65c tyJx4a65c tyJx4a65c_ok cl_X6_7 is_Jx4a65c ini_Jx4a65c (ci := 10) rfl (fs := [.int 0, .null, .int 0]) df_L (by show 0 + 1 ≤ 1; omega) (by show 0 + 3 ≤ 3; omega) dX6_init_5 (fun z H hz_ haz hz1_ oq_ hS => ?_)
  have hzN_z : N ≤ z := by rw [hz_]; exact hsz_
  have ho := ho.kept (oq_ _ ho.lt)
  have hsz_ : N ≤ H.size := by omega
  refine lv_dup hx hb dX6_init_8 rfl ?_
  refine va_callv (run_I hC (cJ_Jx4a65c_init_da8c8 l G d0 mi z H.size) (As := []) (rest := [.ref z, .ref q]) rfl rfl ml_X6_9 im_Jx4a65c_init_da8c8 ini_Jx4a65c cd_Jx4a65c_init_da8c8 rfl na_Jx4a65c_init_da8c8 xB_blind (fun U hU hW => ⟨by rw [hU], by rw [hU]; exact haz, hX.at hS (fun y h => rvA_in hzN_z hsz_ h) hU hW⟩) hl.1 (Nat.le_of_ble_eq_true rfl) ⟨Nat.le_of_ble_eq_true rfl, Nat.le_of_ble_eq_true rfl⟩ ⟨by show (0 + 1) + 0 ≤ 1; omega, by show (0 + 3) + 0 ≤ 3; omega⟩ rfl dX6_init_9) hS (fun z_ _ h => rvA_in hzN_z hsz_ h) (fun z_ h => rvA_in hzN_z hsz_ h) (fun _ tt H1 locs1 ht_ al_ _ hB_ hz1_ oq_ hS => ?_)
  rw [ht_] at hB_
  have ho := ho.kept (oq_ _ ho.lt (fun h => h.elim (fun e => by omega) (fun e => absurd ho.lt (by dsimp only; omega))))
  have haz : LO G z d0 0 0 H1 := hB_
  refine r2_putF hC hK hS (Or.inl rfl) ho lay_X6 tyX6 tyX6_ok nmX6 rfl 2 (by decide) fl_X6_10 (fun x hx => hx) rfl hnm rfl rfl rfl (Nat.le_of_ble_eq_true rfl) dX6_init_12 (fun H locs ho z_ oq_ hS => ?_)
  have ho : va_at G.1 gCl (q, .inr (6, [.int 0, .int 0, .ref z])) H := ho
  have haz := haz.kept (oq_ _ (by omega))
  clear z_ oq_
  refine lv_aload_n hx hb dX6_init_15 rfl (lv_at hl 0 rfl) ?_
  refine lv_iload_n hx hb dX6_init_16 rfl (lv_at hl 1 rfl) ?_
  refine r2_putF hC hK hS (Or.inl rfl) ho lay_X6 tyX6 tyX6_ok nmX6 rfl 0 (by decide) fl_X6_16 (fun x hx => hx) rfl hnm rfl rfl rfl (Nat.le_of_ble_eq_true rfl) dX6_init_17 (fun H locs ho z_ oq_ hS => ?_)
  have ho : va_at G.1 gCl (q, .inr (6, [.int n, .int 0, .ref z])) H := ho
  have haz := haz.kept (oq_ _ (by omega))
  clear z_ oq_
  refine lv_aload_n hx hb dX6_init_20 rfl (lv_at hl 0 rfl) ?_
  refine lv_iload_n hx hb dX6_init_21 rfl (lv_at hl 2 rfl) ?_
  refine r2_putF hC hK hS (Or.inl rfl) ho lay_X6 tyX6 tyX6_ok nmX6 rfl 1 (by decide) fl_X6_20 (fun x hx => hx) rfl hnm rfl rfl rfl (Nat.le_of_ble_eq_true rfl) dX6_init_22 (fun H locs ho z_ oq_ hS => ?_)
  have ho : va_at G.1 gCl (q, .inr (6, [.int n, .int c0, .ref z])) H := ho
  have haz := haz.kept (oq_ _ (by omega))
  clear z_ oq_
  subst hQ
  exact rt_qv z hx hb hr hlk hS trivial (fun t ht _ => ⟨hzN_z, by rw [ht]; exact ho, by rw [ht]; exact haz⟩) (by show 0 + 1 ≤ 1; omega) (by show 0 + 3 ≤ 3; omega) dX6_init_25
set_option maxHeartbeats 4000000 in
set_option maxRecDepth 100000 in
theorem cJ_X7_put (l : Launch) (G : gG) (q : Nat) (n h g a b x : Int32) : Met l yX7_put (wB yX7_put cX7_put 2 none) (rmL 0 0 0) (va_Pc [.ref q, .int x] (fun S => va_at G.1 gCl (q, .inr (7, [.int n, .int h, .int g, .int a, .int b])) S.heap ∧ gK G S)) (va_Qv (S := Unit) (fun _ => True) (fun _ z9 => va_at G.1 gCl (q, .inr (7, [.int n, .int h, .int g, .int (a + x), .int (b + x)])) z9.heap) (fun z => z = q)) 0 0 (fun z => z = q) := by
  refine st_N (own := RX7) (by decide +kernel) rfl (Nat.le_of_ble_eq_true rfl) ?_
  intro p e s m below meth c ls args Q hQ hC hr hlk hnm hl hP
  obtain ⟨ho, hK⟩ := hP
  have hx := hC.1
  have hb := hC.2.1
  have hl : lv_has ls 2 [(0, .ref q), (1, .int x)] := hl
  obtain ⟨H, locs, hHe, hLe⟩ : ∃ (H : Heap) (locs : List Loc), H = s.heap ∧ locs = [] := ⟨_, _, rfl, rfl⟩
  have hS : va_S (fun z => z = q) s.heap H locs := by rw [hHe, hLe]; exact va_S.rf
  rw [← hHe] at ho
  suffices hgo : W p l e (rmL 0 0 0) s m args below meth c H locs 0 0 Q (F0 m 0 ls []) by
    rw [hHe, hLe] at hgo
    exact hgo
  clear hLe
  refine lv_aload_n hx hb dX7_put_0 rfl (lv_at hl 0 rfl) ?_
  refine lv_dup hx hb dX7_put_1 rfl ?_
  refine r1_get hC hK.1 ho lay_X7 rfl 3 (by decide) fl_X7_7 (fun x hx => hx) (v := .int a) rfl dX7_put_2 ?_
  refine lv_iload_n hx hb dX7_put_5 rfl (lv_at hl 1 rfl) ?_
  refine lv_iadd hx hb dX7_put_6 ?_
  refine r2_put hC hK hS rfl ho lay_X7 tyX7 tyX7_ok nmX7 rfl 3 (by decide) fl_X7_7 (fun x hx => hx) rfl rfl rfl (Nat.le_of_ble_eq_true rfl) dX7_put_7 (fun H locs ho z_ oq_ hS => ?_)
  have ho : va_at G.1 gCl (q, .inr (7, [.int n, .int h, .int g, .int (a + x), .int b])) H := ho
  clear z_ oq_
  refine lv_aload_n hx hb dX7_put_10 rfl (lv_at hl 0 rfl) ?_
  refine lv_dup hx hb dX7_put_11 rfl ?_
  refine r1_get hC hK.1 ho lay_X7 rfl 4 (by decide) fl_X7_13 (fun x hx => hx) (v := .int b) rfl dX7_put_12 ?_
  refine lv_iload_n hx hb dX7_put_15 rfl (lv_at hl 1 rfl) ?_
  refine lv_iadd hx hb dX7_put_16 ?_
  refine r2_put hC hK hS rfl ho lay_X7 tyX7 tyX7_ok nmX7 rfl 4 (by decide) fl_X7_13 (fun x hx => hx) rfl rfl rfl (Nat.le_of_ble_eq_true rfl) dX7_put_17 (fun H locs ho z_ oq_ hS => ?_)
  have ho : va_at G.1 gCl (q, .inr (7, [.int n, .int h, .int g, .int (a + x), .int (b + x)])) H := ho
  clear z_ oq_
  subst hQ
  exact rt_qv () hx hb hr hlk hS trivial (fun t ht _ => by rw [ht]; exact ho) (by show 0 ≤ 0; omega) (by show 0 ≤ 0; omega) dX7_put_20
