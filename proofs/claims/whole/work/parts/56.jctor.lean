/-! THE CONSTRUCTORS OF THE FLEET AND OF THE CLASS -/
section RIN
variable {p : Program} {l : Launch} {e : Env} {R : Room} {s : State} {m : MethodId} {args : Array Value} {below : List Frame} {meth : Method} {c : Code} {H : Heap} {locs : List Loc} {cells slots : Nat} {Q : State → Prop}
variable {cc : ByteArray} {pc nL : Nat} {ls : Array Slot} {rest : List Value}
/-- a private constructor of a nest mate is called -/
theorem run_IN {own host : String} {y : MethodName} {bytes : ByteArray} {maxL index mc ms b : Nat} {rm : Room} {As : List Value} {st0 : List Value} {B : State → Prop} {Qc : Array Value → State → Outcome → State → Prop} {free : Addr → Prop}
    (hC : CallFix p m c cc nL s args BIG own) (hM : Met l y (wB y bytes maxL none) rm (va_Pc (.ref b :: As) B) Qc mc ms free) (hrc : rm.cells = mc) (hrs : rm.slots = ms)
    (w1 : va_Nw (.methodLinkNest own index y host) s) (w2 : Cond.instanceMethod y ∈ BIG) (w4 : Cond.initialized y.cls ∈ BIG) (w5 : Cond.code y bytes maxL none ∈ BIG) (hn : y.name = "<init>") (hd : nArgs y As.length)
    (hbl : FrameBlind (va_Pc (.ref b :: As) B)) (hP : ∀ U : State, U.heap = H → s.WarmedH U.vm → B U)
    (hsz : ls.size = nL) (hW : (rest.map fun v => v.category).sum ≤ 8) (hR : rm.frames + 1 ≤ R.frames ∧ 8 + (maxL + 11) + rm.locals ≤ R.locals) (hf : cells + mc ≤ R.cells ∧ slots + ms ≤ R.slots) (hst : st0 = As.reverse ++ .ref b :: rest) (hdg : decode cc pc = .ok (.invokespecial index, 3)) :
    va_Run p l e R s m args below meth c H locs cells slots mc ms (F0 m pc ls st0) rest (Qc (Value.ref b :: As).toArray) free :=
  va_runIN hC hM ⟨va_cnB As.length hC.2.2.2.2 (gB0 w5) rfl hrc hrs w1 (hC.2.2.2.2 _ w4) hd hR, hn, hC.2.2.2.2 _ w2⟩ ⟨hbl, fun U hU hW => ⟨rfl, hP U hU hW⟩⟩ rfl rfl hsz hst (lv_room hW) hdg hf
end RIN
theorem df_X1 : ∀ j, j < 3 → defaultValue (tyX1 j) = vp_V [.long 0, .long 0, .long 0] j := fun j hj => by
  match j, hj with
  | 0, _ => rfl
  | 1, _ => rfl
  | 2, _ => rfl
  | _ + 3, hj => omega
theorem df_X0 : ∀ j, j < 8 → defaultValue (tyX0 j) = vp_V [.null, .null, .int 0, .int 0, .int 0, .int 0, .null, .null] j := fun j hj => by
  match j, hj with
  | 0, _ => rfl
  | 1, _ => rfl
  | 2, _ => rfl
  | 3, _ => rfl
  | 4, _ => rfl
  | 5, _ => rfl
  | 6, _ => rfl
  | 7, _ => rfl
  | _ + 8, hj => omega
set_option maxHeartbeats 4000000 in
set_option maxRecDepth 100000 in
theorem cJ_X0_init (l : Launch) (G : gG) (d0 mi q N : Nat) : Met l yX0_init (wB yX0_init cX0_init 1 none) (rmL 5 4 12) (va_Pc [.ref q] (fun S => S.heap.size = N ∧ va_at G.1 gCl (q, .inr (0, [.null, .null, .int 0, .int 0, .int 0, .int 0, .null, .null])) S.heap ∧ gX G d0 mi (rvA q N) S)) (va_Qv (S := Nat × Nat × Nat × Nat) (fun _ => True) (fun u z9 => N ≤ u.1 ∧ u.1 < u.2.1 ∧ u.2.1 < u.2.2.1 ∧ u.2.2.1 < u.2.2.2 ∧ va_at G.1 gCl (q, .inr (0, [.ref u.1, .ref u.2.1, .int 0, .int 0, .int 0, .int 0, .ref u.2.2.1, .ref u.2.2.2])) z9.heap ∧ va_at G.1 gCl (u.1, .inr (1, [.long 0, .long 0, .long 0])) z9.heap ∧ LO G u.2.1 d0 0 0 z9.heap ∧ LO G u.2.2.1 d0 0 0 z9.heap ∧ LO G u.2.2.2 d0 0 0 z9.heap) (rvA q N)) 4 12 (rvA q N) := by
  refine st_N (own := RX0) (by decide +kernel) rfl (Nat.le_of_ble_eq_true rfl) ?_
  intro p e s m below meth c ls args Q hQ hC hr hlk hnm hl hP
  obtain ⟨hN, ho, hX⟩ := hP
  have hK := hX.1
  have hqN : q < N := by rw [← hN]; exact ho.lt
  have hx := hC.1
  have hb := hC.2.1
  have hl : lv_has ls 1 [(0, .ref q)] := hl
  obtain ⟨H, locs, hHe, hLe⟩ : ∃ (H : Heap) (locs : List Loc), H = s.heap ∧ locs = [] := ⟨_, _, rfl, rfl⟩
  have hS : va_S (rvA q N) s.heap H locs := by rw [hHe, hLe]; exact va_S.rf
  rw [← hHe] at ho
  suffices hgo : W p l e (rmL 5 4 12) s m args below meth c H locs 0 0 Q (F0 m 0 ls []) by
    rw [hHe, hLe] at hgo
    exact hgo
  clear hLe
  refine lv_aload_n hx hb dX0_init_0 rfl (lv_at hl 0 rfl) ?_
  refine r2_oinit hC ml_X0_3 hl.1 (Nat.le_of_ble_eq_true rfl) ⟨Nat.le_of_ble_eq_true rfl, Nat.le_of_ble_eq_true rfl⟩ dX0_init_1 ?_
  refine lv_aload_n hx hb dX0_init_4 rfl (lv_at hl 0 rfl) ?_
  have hsz_ : N ≤ H.size := by have := hS.1; omega
  refine r2_new hC hK hS lay_X1 tyX1 tyX1_ok cl_X0_9 is_X1 ini_X1 (ci := 1) rfl (fs := [.long 0, .long 0, .long 0]) df_X1 (by show 0 + 1 ≤ 4; omega) (by show 0 + 3 ≤ 12; omega) dX0_init_5 (fun f1 H hz_ hf1 hz1_ oq_ hS => ?_)
  have hzN_f1 : N ≤ f1 := by rw [hz_]; exact hsz_
  have hlt_q_f1 : q < f1 := by have k9 := ho.lt; dsimp only at k9; omega
  have ho := ho.kept (oq_ _ ho.lt)
  have hsz_ : N ≤ H.size := by omega
  refine lv_dup hx hb dX0_init_8 rfl ?_
  refine va_callv (run_IN hC (cJ_X1_init l G f1 H.size) (As := []) (rest := [.ref f1, .ref q]) rfl rfl hK.2.2.2 im_X1_init ini_X1 cd_X1_init rfl na_X1_init vB_blind (fun U hU hW => ⟨by rw [hU], by rw [hU]; exact hf1, hK.warm hW⟩) hl.1 (Nat.le_of_ble_eq_true rfl) ⟨Nat.le_of_ble_eq_true rfl, Nat.le_of_ble_eq_true rfl⟩ ⟨by show 0 + 1 + 0 ≤ 4; omega, by show 0 + 3 + 0 ≤ 12; omega⟩ rfl dX0_init_9) hS (fun z_ _ h => rvA_in hzN_f1 hsz_ h) (fun z_ h => rvA_in hzN_f1 hsz_ h) (fun _ tt H1 locs1 ht_ al_ _ hB_ hz1_ oq_ hS => ?_)
  rw [ht_] at hB_
  have ho := ho.kept (oq_ _ ho.lt (fun h => h.elim (fun e => by omega) (fun e => absurd ho.lt (by dsimp only; omega))))
  have hf1 : va_at G.1 gCl (f1, .inr (1, [.long 0, .long 0, .long 0])) H1 := hB_
  refine r2_putF hC hK hS (Or.inl rfl) ho lay_X0 tyX0 tyX0_ok nmX0 rfl 0 (by decide) fl_X0_12 (fun x hx => hx) rfl hnm rfl rfl rfl (Nat.le_of_ble_eq_true rfl) dX0_init_12 (fun H locs ho z_ oq_ hS => ?_)
  have ho : va_at G.1 gCl (q, .inr (0, [.ref f1, .null, .int 0, .int 0, .int 0, .int 0, .null, .null])) H := ho
  have hf1 := hf1.kept (oq_ _ (by omega))
  clear z_ oq_
  refine lv_aload_n hx hb dX0_init_15 rfl (lv_at hl 0 rfl) ?_
  have hsz_ : N ≤ H.size := by have := hS.1; omega
  refine r2_new hC hK hS lay_Jx4a65c tyJx4a65c tyJx4a65c_ok cl_X0_18 is_Jx4a65c ini_Jx4a65c (ci := 10) rfl (fs := [.int 0, .null, .int 0]) df_L (by show 0 + 1 + 1 ≤ 4; omega) (by show 0 + 3 + 3 ≤ 12; omega) dX0_init_16 (fun z4 H hz_ hz4 hz1_ oq_ hS => ?_)
  have hzN_z4 : N ≤ z4 := by rw [hz_]; exact hsz_
  have hlt_q_z4 : q < z4 := by have k9 := ho.lt; dsimp only at k9; omega
  have hlt_f1_z4 : f1 < z4 := by have k9 := hf1.lt; dsimp only at k9; omega
  have ho := ho.kept (oq_ _ ho.lt)
  have hf1 := hf1.kept (oq_ _ hf1.lt)
  have hsz_ : N ≤ H.size := by omega
  refine lv_dup hx hb dX0_init_19 rfl ?_
  refine va_callv (run_I hC (cJ_Jx4a65c_init_da8c8 l G d0 mi z4 H.size) (As := []) (rest := [.ref z4, .ref q]) rfl rfl ml_X0_20 im_Jx4a65c_init_da8c8 ini_Jx4a65c cd_Jx4a65c_init_da8c8 rfl na_Jx4a65c_init_da8c8 xB_blind (fun U hU hW => ⟨by rw [hU], by rw [hU]; exact hz4, hX.at hS (fun y h => rvA_in hzN_z4 hsz_ h) hU hW⟩) hl.1 (Nat.le_of_ble_eq_true rfl) ⟨Nat.le_of_ble_eq_true rfl, Nat.le_of_ble_eq_true rfl⟩ ⟨by show (0 + 1 + 1) + 0 ≤ 4; omega, by show (0 + 3 + 3) + 0 ≤ 12; omega⟩ rfl dX0_init_20) hS (fun z_ _ h => rvA_in hzN_z4 hsz_ h) (fun z_ h => rvA_in hzN_z4 hsz_ h) (fun _ tt H1 locs1 ht_ al_ _ hB_ hz1_ oq_ hS => ?_)
  rw [ht_] at hB_
  have ho := ho.kept (oq_ _ ho.lt (fun h => h.elim (fun e => by omega) (fun e => absurd ho.lt (by dsimp only; omega))))
  have hf1 := hf1.kept (oq_ _ hf1.lt (fun h => h.elim (fun e => by omega) (fun e => absurd hf1.lt (by dsimp only; omega))))
  have hz4 : va_at G.1 gCl (z4, .inr (10, [.int 0, .ref d0, .int (nI 0)])) H1 := hB_
  refine r2_putF hC hK hS (Or.inl rfl) ho lay_X0 tyX0 tyX0_ok nmX0 rfl 1 (by decide) fl_X0_21 (fun x hx => hx) rfl hnm rfl rfl rfl (Nat.le_of_ble_eq_true rfl) dX0_init_23 (fun H locs ho z_ oq_ hS => ?_)
  have ho : va_at G.1 gCl (q, .inr (0, [.ref f1, .ref z4, .int 0, .int 0, .int 0, .int 0, .null, .null])) H := ho
  have hf1 := hf1.kept (oq_ _ (by omega))
  have hz4 := hz4.kept (oq_ _ (by omega))
  clear z_ oq_
  refine lv_aload_n hx hb dX0_init_26 rfl (lv_at hl 0 rfl) ?_
  refine lv_iconst (v := 0) hx hb dX0_init_27 (by decide) ?_
  refine r2_put hC hK hS (Or.inl rfl) ho lay_X0 tyX0 tyX0_ok nmX0 rfl 2 (by decide) fl_X0_25 (fun x hx => hx) rfl rfl rfl (Nat.le_of_ble_eq_true rfl) dX0_init_28 (fun H locs ho z_ oq_ hS => ?_)
  have ho : va_at G.1 gCl (q, .inr (0, [.ref f1, .ref z4, .int 0, .int 0, .int 0, .int 0, .null, .null])) H := ho
  have hf1 := hf1.kept (oq_ _ (by omega))
  have hz4 := hz4.kept (oq_ _ (by omega))
  clear z_ oq_
  refine lv_aload_n hx hb dX0_init_31 rfl (lv_at hl 0 rfl) ?_
  refine lv_iconst (v := 0) hx hb dX0_init_32 (by decide) ?_
  refine r2_put hC hK hS (Or.inl rfl) ho lay_X0 tyX0 tyX0_ok nmX0 rfl 3 (by decide) fl_X0_29 (fun x hx => hx) rfl rfl rfl (Nat.le_of_ble_eq_true rfl) dX0_init_33 (fun H locs ho z_ oq_ hS => ?_)
  have ho : va_at G.1 gCl (q, .inr (0, [.ref f1, .ref z4, .int 0, .int 0, .int 0, .int 0, .null, .null])) H := ho
  have hf1 := hf1.kept (oq_ _ (by omega))
  have hz4 := hz4.kept (oq_ _ (by omega))
  clear z_ oq_
  refine lv_aload_n hx hb dX0_init_36 rfl (lv_at hl 0 rfl) ?_
  refine lv_iconst (v := 0) hx hb dX0_init_37 (by decide) ?_
  refine r2_put hC hK hS (Or.inl rfl) ho lay_X0 tyX0 tyX0_ok nmX0 rfl 4 (by decide) fl_X0_32 (fun x hx => hx) rfl rfl rfl (Nat.le_of_ble_eq_true rfl) dX0_init_38 (fun H locs ho z_ oq_ hS => ?_)
  have ho : va_at G.1 gCl (q, .inr (0, [.ref f1, .ref z4, .int 0, .int 0, .int 0, .int 0, .null, .null])) H := ho
  have hf1 := hf1.kept (oq_ _ (by omega))
  have hz4 := hz4.kept (oq_ _ (by omega))
  clear z_ oq_
  refine lv_aload_n hx hb dX0_init_41 rfl (lv_at hl 0 rfl) ?_
  refine lv_iconst (v := 0) hx hb dX0_init_42 (by decide) ?_
  refine r2_put hC hK hS (Or.inl rfl) ho lay_X0 tyX0 tyX0_ok nmX0 rfl 5 (by decide) fl_X0_35 (fun x hx => hx) rfl rfl rfl (Nat.le_of_ble_eq_true rfl) dX0_init_43 (fun H locs ho z_ oq_ hS => ?_)
  have ho : va_at G.1 gCl (q, .inr (0, [.ref f1, .ref z4, .int 0, .int 0, .int 0, .int 0, .null, .null])) H := ho
  have hf1 := hf1.kept (oq_ _ (by omega))
  have hz4 := hz4.kept (oq_ _ (by omega))
  clear z_ oq_
  refine lv_aload_n hx hb dX0_init_46 rfl (lv_at hl 0 rfl) ?_
  have hsz_ : N ≤ H.size := by have := hS.1; omega
  refine r2_new hC hK hS lay_Jx4a65c tyJx4a65c tyJx4a65c_ok cl_X0_18 is_Jx4a65c ini_Jx4a65c (ci := 10) rfl (fs := [.int 0, .null, .int 0]) df_L (by show 0 + 1 + 1 + 1 ≤ 4; omega) (by show 0 + 3 + 3 + 3 ≤ 12; omega) dX0_init_47 (fun z5 H hz_ hz5 hz1_ oq_ hS => ?_)
  have hzN_z5 : N ≤ z5 := by rw [hz_]; exact hsz_
  have hlt_q_z5 : q < z5 := by have k9 := ho.lt; dsimp only at k9; omega
  have hlt_f1_z5 : f1 < z5 := by have k9 := hf1.lt; dsimp only at k9; omega
  have hlt_z4_z5 : z4 < z5 := by have k9 := hz4.lt; dsimp only at k9; omega
  have ho := ho.kept (oq_ _ ho.lt)
  have hf1 := hf1.kept (oq_ _ hf1.lt)
  have hz4 := hz4.kept (oq_ _ hz4.lt)
  have hsz_ : N ≤ H.size := by omega
  refine lv_dup hx hb dX0_init_50 rfl ?_
  refine va_callv (run_I hC (cJ_Jx4a65c_init_da8c8 l G d0 mi z5 H.size) (As := []) (rest := [.ref z5, .ref q]) rfl rfl ml_X0_20 im_Jx4a65c_init_da8c8 ini_Jx4a65c cd_Jx4a65c_init_da8c8 rfl na_Jx4a65c_init_da8c8 xB_blind (fun U hU hW => ⟨by rw [hU], by rw [hU]; exact hz5, hX.at hS (fun y h => rvA_in hzN_z5 hsz_ h) hU hW⟩) hl.1 (Nat.le_of_ble_eq_true rfl) ⟨Nat.le_of_ble_eq_true rfl, Nat.le_of_ble_eq_true rfl⟩ ⟨by show (0 + 1 + 1 + 1) + 0 ≤ 4; omega, by show (0 + 3 + 3 + 3) + 0 ≤ 12; omega⟩ rfl dX0_init_51) hS (fun z_ _ h => rvA_in hzN_z5 hsz_ h) (fun z_ h => rvA_in hzN_z5 hsz_ h) (fun _ tt H1 locs1 ht_ al_ _ hB_ hz1_ oq_ hS => ?_)
  rw [ht_] at hB_
  have ho := ho.kept (oq_ _ ho.lt (fun h => h.elim (fun e => by omega) (fun e => absurd ho.lt (by dsimp only; omega))))
  have hf1 := hf1.kept (oq_ _ hf1.lt (fun h => h.elim (fun e => by omega) (fun e => absurd hf1.lt (by dsimp only; omega))))
  have hz4 := hz4.kept (oq_ _ hz4.lt (fun h => h.elim (fun e => by omega) (fun e => absurd hz4.lt (by dsimp only; omega))))
  have hz5 : va_at G.1 gCl (z5, .inr (10, [.int 0, .ref d0, .int (nI 0)])) H1 := hB_
  refine r2_putF hC hK hS (Or.inl rfl) ho lay_X0 tyX0 tyX0_ok nmX0 rfl 6 (by decide) fl_X0_38 (fun x hx => hx) rfl hnm rfl rfl rfl (Nat.le_of_ble_eq_true rfl) dX0_init_54 (fun H locs ho z_ oq_ hS => ?_)
  have ho : va_at G.1 gCl (q, .inr (0, [.ref f1, .ref z4, .int 0, .int 0, .int 0, .int 0, .ref z5, .null])) H := ho
  have hf1 := hf1.kept (oq_ _ (by omega))
  have hz4 := hz4.kept (oq_ _ (by omega))
  have hz5 := hz5.kept (oq_ _ (by omega))
  clear z_ oq_
  refine lv_aload_n hx hb dX0_init_57 rfl (lv_at hl 0 rfl) ?_
  have hsz_ : N ≤ H.size := by have := hS.1; omega
  refine r2_new hC hK hS lay_Jx4a65c tyJx4a65c tyJx4a65c_ok cl_X0_18 is_Jx4a65c ini_Jx4a65c (ci := 10) rfl (fs := [.int 0, .null, .int 0]) df_L (by show 0 + 1 + 1 + 1 + 1 ≤ 4; omega) (by show 0 + 3 + 3 + 3 + 3 ≤ 12; omega) dX0_init_58 (fun z6 H hz_ hz6 hz1_ oq_ hS => ?_)
  have hzN_z6 : N ≤ z6 := by rw [hz_]; exact hsz_
  have hlt_q_z6 : q < z6 := by have k9 := ho.lt; dsimp only at k9; omega
  have hlt_f1_z6 : f1 < z6 := by have k9 := hf1.lt; dsimp only at k9; omega
  have hlt_z4_z6 : z4 < z6 := by have k9 := hz4.lt; dsimp only at k9; omega
  have hlt_z5_z6 : z5 < z6 := by have k9 := hz5.lt; dsimp only at k9; omega
  have ho := ho.kept (oq_ _ ho.lt)
  have hf1 := hf1.kept (oq_ _ hf1.lt)
  have hz4 := hz4.kept (oq_ _ hz4.lt)
  have hz5 := hz5.kept (oq_ _ hz5.lt)
  have hsz_ : N ≤ H.size := by omega
  refine lv_dup hx hb dX0_init_61 rfl ?_
  refine va_callv (run_I hC (cJ_Jx4a65c_init_da8c8 l G d0 mi z6 H.size) (As := []) (rest := [.ref z6, .ref q]) rfl rfl ml_X0_20 im_Jx4a65c_init_da8c8 ini_Jx4a65c cd_Jx4a65c_init_da8c8 rfl na_Jx4a65c_init_da8c8 xB_blind (fun U hU hW => ⟨by rw [hU], by rw [hU]; exact hz6, hX.at hS (fun y h => rvA_in hzN_z6 hsz_ h) hU hW⟩) hl.1 (Nat.le_of_ble_eq_true rfl) ⟨Nat.le_of_ble_eq_true rfl, Nat.le_of_ble_eq_true rfl⟩ ⟨by show (0 + 1 + 1 + 1 + 1) + 0 ≤ 4; omega, by show (0 + 3 + 3 + 3 + 3) + 0 ≤ 12; omega⟩ rfl dX0_init_62) hS (fun z_ _ h => rvA_in hzN_z6 hsz_ h) (fun z_ h => rvA_in hzN_z6 hsz_ h) (fun _ tt H1 locs1 ht_ al_ _ hB_ hz1_ oq_ hS => ?_)
  rw [ht_] at hB_
  have ho := ho.kept (oq_ _ ho.lt (fun h => h.elim (fun e => by omega) (fun e => absurd ho.lt (by dsimp only; omega))))
  have hf1 := hf1.kept (oq_ _ hf1.lt (fun h => h.elim (fun e => by omega) (fun e => absurd hf1.lt (by dsimp only; omega))))
  have hz4 := hz4.kept (oq_ _ hz4.lt (fun h => h.elim (fun e => by omega) (fun e => absurd hz4.lt (by dsimp only; omega))))
  have hz5 := hz5.kept (oq_ _ hz5.lt (fun h => h.elim (fun e => by omega) (fun e => absurd hz5.lt (by dsimp only; omega))))
  have hz6 : va_at G.1 gCl (z6, .inr (10, [.int 0, .ref d0, .int (nI 0)])) H1 := hB_
  refine r2_putF hC hK hS (Or.inl rfl) ho lay_X0 tyX0 tyX0_ok nmX0 rfl 7 (by decide) fl_X0_41 (fun x hx => hx) rfl hnm rfl rfl rfl (Nat.le_of_ble_eq_true rfl) dX0_init_65 (fun H locs ho z_ oq_ hS => ?_)
  have ho : va_at G.1 gCl (q, .inr (0, [.ref f1, .ref z4, .int 0, .int 0, .int 0, .int 0, .ref z5, .ref z6])) H := ho
  have hf1 := hf1.kept (oq_ _ (by omega))
  have hz4 := hz4.kept (oq_ _ (by omega))
  have hz5 := hz5.kept (oq_ _ (by omega))
  have hz6 := hz6.kept (oq_ _ (by omega))
  clear z_ oq_
  subst hQ
  exact rt_qv (S := Nat × Nat × Nat × Nat) (f1, z4, z5, z6) hx hb hr hlk hS trivial (fun t ht _ => ⟨hzN_f1, by omega, by omega, by omega, by rw [ht]; exact ho, by rw [ht]; exact hf1, by rw [ht]; exact hz4, by rw [ht]; exact hz5, by rw [ht]; exact hz6⟩) (by show 0 + 1 + 1 + 1 + 1 ≤ 4; omega) (by show 0 + 3 + 3 + 3 + 3 ≤ 12; omega) dX0_init_68
set_option maxHeartbeats 4000000 in
set_option maxRecDepth 100000 in
theorem cJ_X8_init (l : Launch) (G : gG) (d0 mi q N : Nat) : Met l yX8_init (wB yX8_init cX8_init 1 none) (rmL 6 9 32) (va_Pc [.ref q] (fun S => S.heap.size = N ∧ va_at G.1 gCl (q, .inr (8, [.null, .null, .null, .null, .null, .int 0])) S.heap ∧ gX G d0 mi (rvA q N) S)) (va_Qv (S := Nat × Nat × Nat × Nat × Nat × Nat × Nat × Nat × Nat) (fun _ => True) (fun u z9 => N ≤ u.1 ∧ u.1 < u.2.1 ∧ u.2.1 < u.2.2.1 ∧ u.2.2.1 < u.2.2.2.1 ∧ u.2.2.2.1 < u.2.2.2.2.1 ∧ u.2.2.2.2.1 < u.2.2.2.2.2.1 ∧ u.2.2.2.2.2.1 < u.2.2.2.2.2.2.1 ∧ u.2.2.2.2.2.2.1 < u.2.2.2.2.2.2.2.1 ∧ u.2.2.2.2.2.2.2.1 < u.2.2.2.2.2.2.2.2 ∧ va_at G.1 gCl (q, .inr (8, [.ref u.1, .ref u.2.2.2.2.2.1, .ref u.2.2.2.2.2.2.1, .ref u.2.2.2.2.2.2.2.1, .ref u.2.2.2.2.2.2.2.2, .int 0])) z9.heap ∧ va_at G.1 gCl (u.1, .inr (0, [.ref u.2.1, .ref u.2.2.1, .int 0, .int 0, .int 0, .int 0, .ref u.2.2.2.1, .ref u.2.2.2.2.1])) z9.heap ∧ va_at G.1 gCl (u.2.1, .inr (1, [.long 0, .long 0, .long 0])) z9.heap ∧ LO G u.2.2.1 d0 0 0 z9.heap ∧ LO G u.2.2.2.1 d0 0 0 z9.heap ∧ LO G u.2.2.2.2.1 d0 0 0 z9.heap ∧ LO G u.2.2.2.2.2.1 d0 0 0 z9.heap ∧ LO G u.2.2.2.2.2.2.1 d0 0 0 z9.heap ∧ LO G u.2.2.2.2.2.2.2.1 d0 0 0 z9.heap ∧ LO G u.2.2.2.2.2.2.2.2 d0 0 0 z9.heap) (rvA q N)) 9 32 (rvA q N) := by
  refine st_N (own := RX8) (by decide +kernel) rfl (Nat.le_of_ble_eq_true rfl) ?_
  intro p e s m below meth c ls args Q hQ hC hr hlk hnm hl hP
  obtain ⟨hN, ho, hX⟩ := hP
  have hK := hX.1
  have hqN : q < N := by rw [← hN]; exact ho.lt
  have hx := hC.1
  have hb := hC.2.1
  have hl : lv_has ls 1 [(0, .ref q)] := hl
  obtain ⟨H, locs, hHe, hLe⟩ : ∃ (H : Heap) (locs : List Loc), H = s.heap ∧ locs = [] := ⟨_, _, rfl, rfl⟩
  have hS : va_S (rvA q N) s.heap H locs := by rw [hHe, hLe]; exact va_S.rf
  rw [← hHe] at ho
  suffices hgo : W p l e (rmL 6 9 32) s m args below meth c H locs 0 0 Q (F0 m 0 ls []) by
    rw [hHe, hLe] at hgo
    exact hgo
  clear hLe
  refine lv_aload_n hx hb dX8_init_0 rfl (lv_at hl 0 rfl) ?_
  refine r2_oinit hC ml_X8_1 hl.1 (Nat.le_of_ble_eq_true rfl) ⟨Nat.le_of_ble_eq_true rfl, Nat.le_of_ble_eq_true rfl⟩ dX8_init_1 ?_
  refine lv_aload_n hx hb dX8_init_4 rfl (lv_at hl 0 rfl) ?_
  have hsz_ : N ≤ H.size := by have := hS.1; omega
  refine r2_new hC hK hS lay_X0 tyX0 tyX0_ok cl_X8_7 is_X0 ini_X0 (ci := 0) rfl (fs := [.null, .null, .int 0, .int 0, .int 0, .int 0, .null, .null]) df_X0 (by show 0 + 1 ≤ 9; omega) (by show 0 + 8 ≤ 32; omega) dX8_init_5 (fun fl H hz_ hfl hz1_ oq_ hS => ?_)
  have hzN_fl : N ≤ fl := by rw [hz_]; exact hsz_
  have hlt_q_fl : q < fl := by have k9 := ho.lt; dsimp only at k9; omega
  have ho := ho.kept (oq_ _ ho.lt)
  have hsz_ : N ≤ H.size := by omega
  refine lv_dup hx hb dX8_init_8 rfl ?_
  refine va_callv (run_IN hC (cJ_X0_init l G d0 mi fl H.size) (As := []) (rest := [.ref fl, .ref q]) rfl rfl hK.2.2.1 im_X0_init ini_X0 cd_X0_init rfl na_X0_init xB_blind (fun U hU hW => ⟨by rw [hU], by rw [hU]; exact hfl, hX.at hS (fun y h => rvA_in hzN_fl hsz_ h) hU hW⟩) hl.1 (Nat.le_of_ble_eq_true rfl) ⟨Nat.le_of_ble_eq_true rfl, Nat.le_of_ble_eq_true rfl⟩ ⟨by show 0 + 1 + 4 ≤ 9; omega, by show 0 + 8 + 12 ≤ 32; omega⟩ rfl dX8_init_9) hS (fun z_ _ h => rvA_in hzN_fl hsz_ h) (fun z_ h => rvA_in hzN_fl hsz_ h) (fun u9 tt H1 locs1 ht_ al_ _ hB_ hz1_ oq_ hS => ?_)
  rw [ht_] at hB_
  have ho := ho.kept (oq_ _ ho.lt (fun h => h.elim (fun e => by omega) (fun e => absurd ho.lt (by dsimp only; omega))))
  obtain ⟨f1, z4, z5, z6⟩ := u9
  obtain ⟨o1_, o2_, o3_, o4_, hfl, hf1, hz4, hz5, hz6⟩ := hB_
  dsimp only at o1_ o2_ o3_ o4_ hfl hf1 hz4 hz5 hz6
  have hlx_ : fl < f1 := by omega
  have hzN_f1 : N ≤ f1 := by omega
  have hzN_z4 : N ≤ z4 := by omega
  have hzN_z5 : N ≤ z5 := by omega
  have hzN_z6 : N ≤ z6 := by omega
  refine r2_putF hC hK hS (Or.inl rfl) ho lay_X8 tyX8 tyX8_ok nmX8 rfl 0 (by decide) fl_X8_10 (fun x hx => hx) rfl hnm rfl rfl rfl (Nat.le_of_ble_eq_true rfl) dX8_init_12 (fun H locs ho z_ oq_ hS => ?_)
  have ho : va_at G.1 gCl (q, .inr (8, [.ref fl, .null, .null, .null, .null, .int 0])) H := ho
  have hfl := hfl.kept (oq_ _ (by omega))
  have hf1 := hf1.kept (oq_ _ (by omega))
  have hz4 := hz4.kept (oq_ _ (by omega))
  have hz5 := hz5.kept (oq_ _ (by omega))
  have hz6 := hz6.kept (oq_ _ (by omega))
  clear z_ oq_
  refine lv_aload_n hx hb dX8_init_15 rfl (lv_at hl 0 rfl) ?_
  have hsz_ : N ≤ H.size := by have := hS.1; omega
  refine r2_new hC hK hS lay_Jx4a65c tyJx4a65c tyJx4a65c_ok cl_X8_16 is_Jx4a65c ini_Jx4a65c (ci := 10) rfl (fs := [.int 0, .null, .int 0]) df_L (by show 0 + 1 + 4 + 1 ≤ 9; omega) (by show 0 + 8 + 12 + 3 ≤ 32; omega) dX8_init_16 (fun z0 H hz_ hz0 hz1_ oq_ hS => ?_)
  have hzN_z0 : N ≤ z0 := by rw [hz_]; exact hsz_
  have hlt_q_z0 : q < z0 := by have k9 := ho.lt; dsimp only at k9; omega
  have hlt_fl_z0 : fl < z0 := by have k9 := hfl.lt; dsimp only at k9; omega
  have hlt_f1_z0 : f1 < z0 := by have k9 := hf1.lt; dsimp only at k9; omega
  have hlt_z4_z0 : z4 < z0 := by have k9 := hz4.lt; dsimp only at k9; omega
  have hlt_z5_z0 : z5 < z0 := by have k9 := hz5.lt; dsimp only at k9; omega
  have hlt_z6_z0 : z6 < z0 := by have k9 := hz6.lt; dsimp only at k9; omega
  have ho := ho.kept (oq_ _ ho.lt)
  have hfl := hfl.kept (oq_ _ hfl.lt)
  have hf1 := hf1.kept (oq_ _ hf1.lt)
  have hz4 := hz4.kept (oq_ _ hz4.lt)
  have hz5 := hz5.kept (oq_ _ hz5.lt)
  have hz6 := hz6.kept (oq_ _ hz6.lt)
  have hsz_ : N ≤ H.size := by omega
  refine lv_dup hx hb dX8_init_19 rfl ?_
  refine va_callv (run_I hC (cJ_Jx4a65c_init_da8c8 l G d0 mi z0 H.size) (As := []) (rest := [.ref z0, .ref q]) rfl rfl ml_X8_18 im_Jx4a65c_init_da8c8 ini_Jx4a65c cd_Jx4a65c_init_da8c8 rfl na_Jx4a65c_init_da8c8 xB_blind (fun U hU hW => ⟨by rw [hU], by rw [hU]; exact hz0, hX.at hS (fun y h => rvA_in hzN_z0 hsz_ h) hU hW⟩) hl.1 (Nat.le_of_ble_eq_true rfl) ⟨Nat.le_of_ble_eq_true rfl, Nat.le_of_ble_eq_true rfl⟩ ⟨by show (0 + 1 + 4 + 1) + 0 ≤ 9; omega, by show (0 + 8 + 12 + 3) + 0 ≤ 32; omega⟩ rfl dX8_init_20) hS (fun z_ _ h => rvA_in hzN_z0 hsz_ h) (fun z_ h => rvA_in hzN_z0 hsz_ h) (fun _ tt H1 locs1 ht_ al_ _ hB_ hz1_ oq_ hS => ?_)
  rw [ht_] at hB_
  have ho := ho.kept (oq_ _ ho.lt (fun h => h.elim (fun e => by omega) (fun e => absurd ho.lt (by dsimp only; omega))))
  have hfl := hfl.kept (oq_ _ hfl.lt (fun h => h.elim (fun e => by omega) (fun e => absurd hfl.lt (by dsimp only; omega))))
  have hf1 := hf1.kept (oq_ _ hf1.lt (fun h => h.elim (fun e => by omega) (fun e => absurd hf1.lt (by dsimp only; omega))))
  have hz4 := hz4.kept (oq_ _ hz4.lt (fun h => h.elim (fun e => by omega) (fun e => absurd hz4.lt (by dsimp only; omega))))
  have hz5 := hz5.kept (oq_ _ hz5.lt (fun h => h.elim (fun e => by omega) (fun e => absurd hz5.lt (by dsimp only; omega))))
  have hz6 := hz6.kept (oq_ _ hz6.lt (fun h => h.elim (fun e => by omega) (fun e => absurd hz6.lt (by dsimp only; omega))))
  have hz0 : va_at G.1 gCl (z0, .inr (10, [.int 0, .ref d0, .int (nI 0)])) H1 := hB_
  refine r2_putF hC hK hS (Or.inl rfl) ho lay_X8 tyX8 tyX8_ok nmX8 rfl 1 (by decide) fl_X8_19 (fun x hx => hx) rfl hnm rfl rfl rfl (Nat.le_of_ble_eq_true rfl) dX8_init_23 (fun H locs ho z_ oq_ hS => ?_)
  have ho : va_at G.1 gCl (q, .inr (8, [.ref fl, .ref z0, .null, .null, .null, .int 0])) H := ho
  have hfl := hfl.kept (oq_ _ (by omega))
  have hf1 := hf1.kept (oq_ _ (by omega))
  have hz4 := hz4.kept (oq_ _ (by omega))
  have hz5 := hz5.kept (oq_ _ (by omega))
  have hz6 := hz6.kept (oq_ _ (by omega))
  have hz0 := hz0.kept (oq_ _ (by omega))
  clear z_ oq_
  refine lv_aload_n hx hb dX8_init_26 rfl (lv_at hl 0 rfl) ?_
  have hsz_ : N ≤ H.size := by have := hS.1; omega
  refine r2_new hC hK hS lay_Jx4a65c tyJx4a65c tyJx4a65c_ok cl_X8_16 is_Jx4a65c ini_Jx4a65c (ci := 10) rfl (fs := [.int 0, .null, .int 0]) df_L (by show 0 + 1 + 4 + 1 + 1 ≤ 9; omega) (by show 0 + 8 + 12 + 3 + 3 ≤ 32; omega) dX8_init_27 (fun z1 H hz_ hz1 hz1_ oq_ hS => ?_)
  have hzN_z1 : N ≤ z1 := by rw [hz_]; exact hsz_
  have hlt_q_z1 : q < z1 := by have k9 := ho.lt; dsimp only at k9; omega
  have hlt_fl_z1 : fl < z1 := by have k9 := hfl.lt; dsimp only at k9; omega
  have hlt_f1_z1 : f1 < z1 := by have k9 := hf1.lt; dsimp only at k9; omega
  have hlt_z4_z1 : z4 < z1 := by have k9 := hz4.lt; dsimp only at k9; omega
  have hlt_z5_z1 : z5 < z1 := by have k9 := hz5.lt; dsimp only at k9; omega
  have hlt_z6_z1 : z6 < z1 := by have k9 := hz6.lt; dsimp only at k9; omega
  have hlt_z0_z1 : z0 < z1 := by have k9 := hz0.lt; dsimp only at k9; omega
  have ho := ho.kept (oq_ _ ho.lt)
  have hfl := hfl.kept (oq_ _ hfl.lt)
  have hf1 := hf1.kept (oq_ _ hf1.lt)
  have hz4 := hz4.kept (oq_ _ hz4.lt)
  have hz5 := hz5.kept (oq_ _ hz5.lt)
  have hz6 := hz6.kept (oq_ _ hz6.lt)
  have hz0 := hz0.kept (oq_ _ hz0.lt)
  have hsz_ : N ≤ H.size := by omega
  refine lv_dup hx hb dX8_init_30 rfl ?_
  refine va_callv (run_I hC (cJ_Jx4a65c_init_da8c8 l G d0 mi z1 H.size) (As := []) (rest := [.ref z1, .ref q]) rfl rfl ml_X8_18 im_Jx4a65c_init_da8c8 ini_Jx4a65c cd_Jx4a65c_init_da8c8 rfl na_Jx4a65c_init_da8c8 xB_blind (fun U hU hW => ⟨by rw [hU], by rw [hU]; exact hz1, hX.at hS (fun y h => rvA_in hzN_z1 hsz_ h) hU hW⟩) hl.1 (Nat.le_of_ble_eq_true rfl) ⟨Nat.le_of_ble_eq_true rfl, Nat.le_of_ble_eq_true rfl⟩ ⟨by show (0 + 1 + 4 + 1 + 1) + 0 ≤ 9; omega, by show (0 + 8 + 12 + 3 + 3) + 0 ≤ 32; omega⟩ rfl dX8_init_31) hS (fun z_ _ h => rvA_in hzN_z1 hsz_ h) (fun z_ h => rvA_in hzN_z1 hsz_ h) (fun _ tt H1 locs1 ht_ al_ _ hB_ hz1_ oq_ hS => ?_)
  rw [ht_] at hB_
  have ho := ho.kept (oq_ _ ho.lt (fun h => h.elim (fun e => by omega) (fun e => absurd ho.lt (by dsimp only; omega))))
  have hfl := hfl.kept (oq_ _ hfl.lt (fun h => h.elim (fun e => by omega) (fun e => absurd hfl.lt (by dsimp only; omega))))
  have hf1 := hf1.kept (oq_ _ hf1.lt (fun h => h.elim (fun e => by omega) (fun e => absurd hf1.lt (by dsimp only; omega))))
  have hz4 := hz4.kept (oq_ _ hz4.lt (fun h => h.elim (fun e => by omega) (fun e => absurd hz4.lt (by dsimp only; omega))))
  have hz5 := hz5.kept (oq_ _ hz5.lt (fun h => h.elim (fun e => by omega) (fun e => absurd hz5.lt (by dsimp only; omega))))
  have hz6 := hz6.kept (oq_ _ hz6.lt (fun h => h.elim (fun e => by omega) (fun e => absurd hz6.lt (by dsimp only; omega))))
  have hz0 := hz0.kept (oq_ _ hz0.lt (fun h => h.elim (fun e => by omega) (fun e => absurd hz0.lt (by dsimp only; omega))))
  have hz1 : va_at G.1 gCl (z1, .inr (10, [.int 0, .ref d0, .int (nI 0)])) H1 := hB_
  refine r2_putF hC hK hS (Or.inl rfl) ho lay_X8 tyX8 tyX8_ok nmX8 rfl 2 (by decide) fl_X8_23 (fun x hx => hx) rfl hnm rfl rfl rfl (Nat.le_of_ble_eq_true rfl) dX8_init_34 (fun H locs ho z_ oq_ hS => ?_)
  have ho : va_at G.1 gCl (q, .inr (8, [.ref fl, .ref z0, .ref z1, .null, .null, .int 0])) H := ho
  have hfl := hfl.kept (oq_ _ (by omega))
  have hf1 := hf1.kept (oq_ _ (by omega))
  have hz4 := hz4.kept (oq_ _ (by omega))
  have hz5 := hz5.kept (oq_ _ (by omega))
  have hz6 := hz6.kept (oq_ _ (by omega))
  have hz0 := hz0.kept (oq_ _ (by omega))
  have hz1 := hz1.kept (oq_ _ (by omega))
  clear z_ oq_
  refine lv_aload_n hx hb dX8_init_37 rfl (lv_at hl 0 rfl) ?_
  have hsz_ : N ≤ H.size := by have := hS.1; omega
  refine r2_new hC hK hS lay_Jx4a65c tyJx4a65c tyJx4a65c_ok cl_X8_16 is_Jx4a65c ini_Jx4a65c (ci := 10) rfl (fs := [.int 0, .null, .int 0]) df_L (by show 0 + 1 + 4 + 1 + 1 + 1 ≤ 9; omega) (by show 0 + 8 + 12 + 3 + 3 + 3 ≤ 32; omega) dX8_init_38 (fun z2 H hz_ hz2 hz1_ oq_ hS => ?_)
  have hzN_z2 : N ≤ z2 := by rw [hz_]; exact hsz_
  have hlt_q_z2 : q < z2 := by have k9 := ho.lt; dsimp only at k9; omega
  have hlt_fl_z2 : fl < z2 := by have k9 := hfl.lt; dsimp only at k9; omega
  have hlt_f1_z2 : f1 < z2 := by have k9 := hf1.lt; dsimp only at k9; omega
  have hlt_z4_z2 : z4 < z2 := by have k9 := hz4.lt; dsimp only at k9; omega
  have hlt_z5_z2 : z5 < z2 := by have k9 := hz5.lt; dsimp only at k9; omega
  have hlt_z6_z2 : z6 < z2 := by have k9 := hz6.lt; dsimp only at k9; omega
  have hlt_z0_z2 : z0 < z2 := by have k9 := hz0.lt; dsimp only at k9; omega
  have hlt_z1_z2 : z1 < z2 := by have k9 := hz1.lt; dsimp only at k9; omega
  have ho := ho.kept (oq_ _ ho.lt)
  have hfl := hfl.kept (oq_ _ hfl.lt)
  have hf1 := hf1.kept (oq_ _ hf1.lt)
  have hz4 := hz4.kept (oq_ _ hz4.lt)
  have hz5 := hz5.kept (oq_ _ hz5.lt)
  have hz6 := hz6.kept (oq_ _ hz6.lt)
  have hz0 := hz0.kept (oq_ _ hz0.lt)
  have hz1 := hz1.kept (oq_ _ hz1.lt)
  have hsz_ : N ≤ H.size := by omega
  refine lv_dup hx hb dX8_init_41 rfl ?_
  refine va_callv (run_I hC (cJ_Jx4a65c_init_da8c8 l G d0 mi z2 H.size) (As := []) (rest := [.ref z2, .ref q]) rfl rfl ml_X8_18 im_Jx4a65c_init_da8c8 ini_Jx4a65c cd_Jx4a65c_init_da8c8 rfl na_Jx4a65c_init_da8c8 xB_blind (fun U hU hW => ⟨by rw [hU], by rw [hU]; exact hz2, hX.at hS (fun y h => rvA_in hzN_z2 hsz_ h) hU hW⟩) hl.1 (Nat.le_of_ble_eq_true rfl) ⟨Nat.le_of_ble_eq_true rfl, Nat.le_of_ble_eq_true rfl⟩ ⟨by show (0 + 1 + 4 + 1 + 1 + 1) + 0 ≤ 9; omega, by show (0 + 8 + 12 + 3 + 3 + 3) + 0 ≤ 32; omega⟩ rfl dX8_init_42) hS (fun z_ _ h => rvA_in hzN_z2 hsz_ h) (fun z_ h => rvA_in hzN_z2 hsz_ h) (fun _ tt H1 locs1 ht_ al_ _ hB_ hz1_ oq_ hS => ?_)
  rw [ht_] at hB_
  have ho := ho.kept (oq_ _ ho.lt (fun h => h.elim (fun e => by omega) (fun e => absurd ho.lt (by dsimp only; omega))))
  have hfl := hfl.kept (oq_ _ hfl.lt (fun h => h.elim (fun e => by omega) (fun e => absurd hfl.lt (by dsimp only; omega))))
  have hf1 := hf1.kept (oq_ _ hf1.lt (fun h => h.elim (fun e => by omega) (fun e => absurd hf1.lt (by dsimp only; omega))))
  have hz4 := hz4.kept (oq_ _ hz4.lt (fun h => h.elim (fun e => by omega) (fun e => absurd hz4.lt (by dsimp only; omega))))
  have hz5 := hz5.kept (oq_ _ hz5.lt (fun h => h.elim (fun e => by omega) (fun e => absurd hz5.lt (by dsimp only; omega))))
  have hz6 := hz6.kept (oq_ _ hz6.lt (fun h => h.elim (fun e => by omega) (fun e => absurd hz6.lt (by dsimp only; omega))))
  have hz0 := hz0.kept (oq_ _ hz0.lt (fun h => h.elim (fun e => by omega) (fun e => absurd hz0.lt (by dsimp only; omega))))
  have hz1 := hz1.kept (oq_ _ hz1.lt (fun h => h.elim (fun e => by omega) (fun e => absurd hz1.lt (by dsimp only; omega))))
  have hz2 : va_at G.1 gCl (z2, .inr (10, [.int 0, .ref d0, .int (nI 0)])) H1 := hB_
  refine r2_putF hC hK hS (Or.inl rfl) ho lay_X8 tyX8 tyX8_ok nmX8 rfl 3 (by decide) fl_X8_26 (fun x hx => hx) rfl hnm rfl rfl rfl (Nat.le_of_ble_eq_true rfl) dX8_init_45 (fun H locs ho z_ oq_ hS => ?_)
  have ho : va_at G.1 gCl (q, .inr (8, [.ref fl, .ref z0, .ref z1, .ref z2, .null, .int 0])) H := ho
  have hfl := hfl.kept (oq_ _ (by omega))
  have hf1 := hf1.kept (oq_ _ (by omega))
  have hz4 := hz4.kept (oq_ _ (by omega))
  have hz5 := hz5.kept (oq_ _ (by omega))
  have hz6 := hz6.kept (oq_ _ (by omega))
  have hz0 := hz0.kept (oq_ _ (by omega))
  have hz1 := hz1.kept (oq_ _ (by omega))
  have hz2 := hz2.kept (oq_ _ (by omega))
  clear z_ oq_
  refine lv_aload_n hx hb dX8_init_48 rfl (lv_at hl 0 rfl) ?_
  have hsz_ : N ≤ H.size := by have := hS.1; omega
  refine r2_new hC hK hS lay_Jx4a65c tyJx4a65c tyJx4a65c_ok cl_X8_16 is_Jx4a65c ini_Jx4a65c (ci := 10) rfl (fs := [.int 0, .null, .int 0]) df_L (by show 0 + 1 + 4 + 1 + 1 + 1 + 1 ≤ 9; omega) (by show 0 + 8 + 12 + 3 + 3 + 3 + 3 ≤ 32; omega) dX8_init_49 (fun z3 H hz_ hz3 hz1_ oq_ hS => ?_)
  have hzN_z3 : N ≤ z3 := by rw [hz_]; exact hsz_
  have hlt_q_z3 : q < z3 := by have k9 := ho.lt; dsimp only at k9; omega
  have hlt_fl_z3 : fl < z3 := by have k9 := hfl.lt; dsimp only at k9; omega
  have hlt_f1_z3 : f1 < z3 := by have k9 := hf1.lt; dsimp only at k9; omega
  have hlt_z4_z3 : z4 < z3 := by have k9 := hz4.lt; dsimp only at k9; omega
  have hlt_z5_z3 : z5 < z3 := by have k9 := hz5.lt; dsimp only at k9; omega
  have hlt_z6_z3 : z6 < z3 := by have k9 := hz6.lt; dsimp only at k9; omega
  have hlt_z0_z3 : z0 < z3 := by have k9 := hz0.lt; dsimp only at k9; omega
  have hlt_z1_z3 : z1 < z3 := by have k9 := hz1.lt; dsimp only at k9; omega
  have hlt_z2_z3 : z2 < z3 := by have k9 := hz2.lt; dsimp only at k9; omega
  have ho := ho.kept (oq_ _ ho.lt)
  have hfl := hfl.kept (oq_ _ hfl.lt)
  have hf1 := hf1.kept (oq_ _ hf1.lt)
  have hz4 := hz4.kept (oq_ _ hz4.lt)
  have hz5 := hz5.kept (oq_ _ hz5.lt)
  have hz6 := hz6.kept (oq_ _ hz6.lt)
  have hz0 := hz0.kept (oq_ _ hz0.lt)
  have hz1 := hz1.kept (oq_ _ hz1.lt)
  have hz2 := hz2.kept (oq_ _ hz2.lt)
  have hsz_ : N ≤ H.size := by omega
  refine lv_dup hx hb dX8_init_52 rfl ?_
  refine va_callv (run_I hC (cJ_Jx4a65c_init_da8c8 l G d0 mi z3 H.size) (As := []) (rest := [.ref z3, .ref q]) rfl rfl ml_X8_18 im_Jx4a65c_init_da8c8 ini_Jx4a65c cd_Jx4a65c_init_da8c8 rfl na_Jx4a65c_init_da8c8 xB_blind (fun U hU hW => ⟨by rw [hU], by rw [hU]; exact hz3, hX.at hS (fun y h => rvA_in hzN_z3 hsz_ h) hU hW⟩) hl.1 (Nat.le_of_ble_eq_true rfl) ⟨Nat.le_of_ble_eq_true rfl, Nat.le_of_ble_eq_true rfl⟩ ⟨by show (0 + 1 + 4 + 1 + 1 + 1 + 1) + 0 ≤ 9; omega, by show (0 + 8 + 12 + 3 + 3 + 3 + 3) + 0 ≤ 32; omega⟩ rfl dX8_init_53) hS (fun z_ _ h => rvA_in hzN_z3 hsz_ h) (fun z_ h => rvA_in hzN_z3 hsz_ h) (fun _ tt H1 locs1 ht_ al_ _ hB_ hz1_ oq_ hS => ?_)
  rw [ht_] at hB_
  have ho := ho.kept (oq_ _ ho.lt (fun h => h.elim (fun e => by omega) (fun e => absurd ho.lt (by dsimp only; omega))))
  have hfl := hfl.kept (oq_ _ hfl.lt (fun h => h.elim (fun e => by omega) (fun e => absurd hfl.lt (by dsimp only; omega))))
  have hf1 := hf1.kept (oq_ _ hf1.lt (fun h => h.elim (fun e => by omega) (fun e => absurd hf1.lt (by dsimp only; omega))))
  have hz4 := hz4.kept (oq_ _ hz4.lt (fun h => h.elim (fun e => by omega) (fun e => absurd hz4.lt (by dsimp only; omega))))
  have hz5 := hz5.kept (oq_ _ hz5.lt (fun h => h.elim (fun e => by omega) (fun e => absurd hz5.lt (by dsimp only; omega))))
  have hz6 := hz6.kept (oq_ _ hz6.lt (fun h => h.elim (fun e => by omega) (fun e => absurd hz6.lt (by dsimp only; omega))))
  have hz0 := hz0.kept (oq_ _ hz0.lt (fun h => h.elim (fun e => by omega) (fun e => absurd hz0.lt (by dsimp only; omega))))
  have hz1 := hz1.kept (oq_ _ hz1.lt (fun h => h.elim (fun e => by omega) (fun e => absurd hz1.lt (by dsimp only; omega))))
  have hz2 := hz2.kept (oq_ _ hz2.lt (fun h => h.elim (fun e => by omega) (fun e => absurd hz2.lt (by dsimp only; omega))))
  have hz3 : va_at G.1 gCl (z3, .inr (10, [.int 0, .ref d0, .int (nI 0)])) H1 := hB_
  refine r2_putF hC hK hS (Or.inl rfl) ho lay_X8 tyX8 tyX8_ok nmX8 rfl 4 (by decide) fl_X8_29 (fun x hx => hx) rfl hnm rfl rfl rfl (Nat.le_of_ble_eq_true rfl) dX8_init_56 (fun H locs ho z_ oq_ hS => ?_)
  have ho : va_at G.1 gCl (q, .inr (8, [.ref fl, .ref z0, .ref z1, .ref z2, .ref z3, .int 0])) H := ho
  have hfl := hfl.kept (oq_ _ (by omega))
  have hf1 := hf1.kept (oq_ _ (by omega))
  have hz4 := hz4.kept (oq_ _ (by omega))
  have hz5 := hz5.kept (oq_ _ (by omega))
  have hz6 := hz6.kept (oq_ _ (by omega))
  have hz0 := hz0.kept (oq_ _ (by omega))
  have hz1 := hz1.kept (oq_ _ (by omega))
  have hz2 := hz2.kept (oq_ _ (by omega))
  have hz3 := hz3.kept (oq_ _ (by omega))
  clear z_ oq_
  refine lv_aload_n hx hb dX8_init_59 rfl (lv_at hl 0 rfl) ?_
  refine lv_iconst (v := 0) hx hb dX8_init_60 (by decide) ?_
  refine r2_put hC hK hS (Or.inl rfl) ho lay_X8 tyX8 tyX8_ok nmX8 rfl 5 (by decide) fl_X8_32 (fun x hx => hx) rfl rfl rfl (Nat.le_of_ble_eq_true rfl) dX8_init_61 (fun H locs ho z_ oq_ hS => ?_)
  have ho : va_at G.1 gCl (q, .inr (8, [.ref fl, .ref z0, .ref z1, .ref z2, .ref z3, .int 0])) H := ho
  have hfl := hfl.kept (oq_ _ (by omega))
  have hf1 := hf1.kept (oq_ _ (by omega))
  have hz4 := hz4.kept (oq_ _ (by omega))
  have hz5 := hz5.kept (oq_ _ (by omega))
  have hz6 := hz6.kept (oq_ _ (by omega))
  have hz0 := hz0.kept (oq_ _ (by omega))
  have hz1 := hz1.kept (oq_ _ (by omega))
  have hz2 := hz2.kept (oq_ _ (by omega))
  have hz3 := hz3.kept (oq_ _ (by omega))
  clear z_ oq_
  subst hQ
  exact rt_qv (S := Nat × Nat × Nat × Nat × Nat × Nat × Nat × Nat × Nat) (fl, f1, z4, z5, z6, z0, z1, z2, z3) hx hb hr hlk hS trivial (fun t ht _ => ⟨hzN_fl, by omega, by omega, by omega, by omega, by omega, by omega, by omega, by omega, by rw [ht]; exact ho, by rw [ht]; exact hfl, by rw [ht]; exact hf1, by rw [ht]; exact hz4, by rw [ht]; exact hz5, by rw [ht]; exact hz6, by rw [ht]; exact hz0, by rw [ht]; exact hz1, by rw [ht]; exact hz2, by rw [ht]; exact hz3⟩) (by show 0 + 1 + 4 + 1 + 1 + 1 + 1 ≤ 9; omega) (by show 0 + 8 + 12 + 3 + 3 + 3 + 3 ≤ 32; omega) dX8_init_64
