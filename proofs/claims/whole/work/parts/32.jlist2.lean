/-! LISTS: made, cleared, an element in the midst -/
def frm (f : Nat → Nat) (i : Nat) : Nat → Nat := fun j => if j < i then f j else f (j + 1)
def fin_ (f : Nat → Nat) (i x : Nat) : Nat → Nat := fun j => if j < i then f j else if j = i then x else f (j - 1)
theorem rm1_lf {n i : Nat} {f : Nat → Nat} (h : n - 1 ≤ i) (hi : i < n) (j : Nat) : va_up (lf n f) (n - 1) none j = lf (n - 1) (frm f i) j := by
  unfold va_up lf frm
  by_cases e : j = n - 1
  · rw [if_pos e, if_neg (by omega)]
  · rw [if_neg e]
    by_cases h2 : j < n
    · rw [if_pos h2, if_pos (by omega), if_pos (by omega)]
    · rw [if_neg h2, if_neg (by omega)]
theorem rm2_lf {n i : Nat} {f : Nat → Nat} (h : ¬ n - 1 ≤ i) (j : Nat) : va_up (va_cpy (lf n f) (lf n f) (i + 1) i (n - 1 - i)) (n - 1) none j = lf (n - 1) (frm f i) j := by
  unfold va_up va_cpy lf frm
  by_cases e : j = n - 1
  · rw [if_pos e, if_neg (by omega)]
  · rw [if_neg e]
    by_cases h1 : j < i
    · rw [if_neg (by omega), if_pos (by omega), if_pos (by omega), if_pos h1]
    · by_cases h2 : j < n - 1
      · rw [if_pos (by omega), if_pos (by omega), if_pos h2, if_neg h1]
        congr 2
        omega
      · rw [if_neg (by omega), if_neg (by omega), if_neg h2]
theorem in_lf {n i x : Nat} {f : Nat → Nat} (h : i ≤ n) (j : Nat) : va_up (va_cpy (lf n f) (lf n f) i (i + 1) (n - i)) i (some x) j = lf (n + 1) (fin_ f i x) j := by
  unfold va_up va_cpy lf fin_
  by_cases e : j = i
  · rw [if_pos e, if_pos (by omega), if_neg (by omega), if_pos e]
  · rw [if_neg e]
    by_cases h1 : j < i
    · rw [if_neg (by omega), if_pos (by omega), if_pos (by omega), if_pos h1]
    · by_cases h2 : j < n + 1
      · rw [if_pos (by omega), if_pos (by omega), if_pos h2, if_neg h1, if_neg e]
        congr 2
        omega
      · rw [if_neg (by omega), if_neg (by omega), if_neg h2]
theorem in0_lf {x : Nat} (j : Nat) : va_up (va_cpy (fun _ => none) (fun _ => none) 0 (0 + 1) (0 - 0)) 0 (some x) j = lf 1 (fun _ => x) j := by
  unfold va_up va_cpy lf
  by_cases e : j = 0
  · rw [if_pos e, if_pos (by omega)]
  · rw [if_neg e, if_neg (by omega), if_neg (by omega)]
def clf (i n : Nat) (f : Nat → Nat) : Nat → Option Nat := fun j => if j < i then none else lf n f j
theorem clf_0 {n : Nat} {f : Nat → Nat} (j : Nat) : lf n f j = clf 0 n f j := by unfold clf; rw [if_neg (by omega)]
theorem clf_s {i n : Nat} {f : Nat → Nat} (j : Nat) : va_up (clf i n f) i none j = clf (i + 1) n f j := by
  unfold va_up clf
  by_cases e : j = i
  · rw [if_pos e, if_pos (by omega)]
  · rw [if_neg e]
    by_cases h : j < i
    · rw [if_pos h, if_pos (by omega)]
    · rw [if_neg h, if_neg (by omega)]
theorem clf_n {i n : Nat} {f g : Nat → Nat} (h : n ≤ i) (j : Nat) : clf i n f j = lf 0 g j := by
  unfold clf lf
  rw [if_neg (show ¬ j < 0 by omega)]
  by_cases e : j < i
  · rw [if_pos e]
  · rw [if_neg e, if_neg (by omega)]
theorem vB_blind {G : gG} {N : Nat} {q : Nat × va_E} {av : List Value} : FrameBlind (va_Pc av (fun S => S.heap.size = N ∧ va_at G.1 gCl q S.heap ∧ gK G S)) := fun _ _ _ _ h => ⟨h.1, h.2.1, h.2.2.1, h.2.2.2.blind⟩
set_option maxHeartbeats 4000000 in
set_option maxRecDepth 100000 in
theorem cJ_clearN (l : Launch) (G : gG) (q arr cap n : Nat) (f : Nat → Nat) (md : Int32) (N : Nat) (hn : n ≤ cap) (hcap : cap ≤ 40000) (hqa : arr ≠ q) : Met l yJx4a65c_clear_da8c8 (wB yJx4a65c_clear_da8c8 cJx4a65c_clear_da8c8 4 none) (rmL 0 0 0) (va_Pc [.ref q] (fun S => S.heap.size = N ∧ LO G q arr n md S.heap ∧ LA G arr cap n f S.heap ∧ gK G S)) (va_Qv (S := Unit) (fun _ => True) (fun _ t => LO G q arr 0 (md + 1) t.heap ∧ LA G arr cap 0 f t.heap) (rvB q arr N)) 0 0 (rvB q arr N) := by
  refine st_N (own := RJx4a65c) (by decide +kernel) rfl (Nat.le_of_ble_eq_true rfl) ?_
  intro p e s m below meth c ls args Q hQ hC hr hlk hnm hl hP
  obtain ⟨hN, ho, ha, hK⟩ := hP
  have hx := hC.1
  have hb := hC.2.1
  have hl : lv_has ls 4 [(0, .ref q)] := hl
  obtain ⟨H, locs, hHe, hLe⟩ : ∃ (H : Heap) (locs : List Loc), H = s.heap ∧ locs = [] := ⟨_, _, rfl, rfl⟩
  have hS : va_S (rvB q arr N) s.heap H locs := by rw [hHe, hLe]; exact va_S.rf
  rw [← hHe] at ho
  rw [← hHe] at ha
  suffices hgo : W p l e (rmL 0 0 0) s m args below meth c H locs 0 0 Q (F0 m 0 ls []) by
    rw [hHe, hLe] at hgo
    exact hgo
  clear hLe
  refine lv_aload_n hx hb dJx4a65c_clear_da8c8_0 rfl (lv_at hl 0 rfl) ?_
  refine lv_dup hx hb dJx4a65c_clear_da8c8_1 rfl ?_
  refine r1_get hC hK.1 ho lay_Jx4a65c rfl 0 (by decide) fl_Jx4a65c_63 (sf_mod hC) (v := .int md) rfl dJx4a65c_clear_da8c8_2 ?_
  refine lv_iconst (v := 1) hx hb dJx4a65c_clear_da8c8_5 (by decide) ?_
  refine lv_iadd hx hb dJx4a65c_clear_da8c8_6 ?_
  refine r2_put hC hK hS (Or.inl rfl) ho lay_Jx4a65c tyJx4a65c tyJx4a65c_ok nmJx4a65c rfl 0 (by decide) fl_Jx4a65c_63 (sf_mod hC) rfl rfl rfl (Nat.le_of_ble_eq_true rfl) dJx4a65c_clear_da8c8_7 (fun H locs ho z_ oq_ hS => ?_)
  have ho : va_at G.1 gCl (q, .inr (10, [.int (md + 1), .ref arr, .int (nI n)])) H := ho
  have ha := ha.kept (oq_ _ hqa)
  clear z_ oq_
  refine lv_aload_n hx hb dJx4a65c_clear_da8c8_10 rfl (lv_at hl 0 rfl) ?_
  refine r1_get hC hK.1 ho lay_Jx4a65c rfl 1 (by decide) fl_Jx4a65c_9 (fun x hx => hx) (v := .ref arr) rfl dJx4a65c_clear_da8c8_11 ?_
  refine lv_astore_n (lv' := [(1, .ref arr), (0, .ref q)]) hx hb dJx4a65c_clear_da8c8_14 rfl hl (by decide) rfl (fun ls hl => ?_)
  refine lv_aload_n hx hb dJx4a65c_clear_da8c8_15 rfl (lv_at hl 1 rfl) ?_
  refine r1_get hC hK.1 ho lay_Jx4a65c rfl 2 (by decide) fl_Jx4a65c_48 (fun x hx => hx) (v := .int (nI n)) rfl dJx4a65c_clear_da8c8_16 ?_
  refine lv_istore_n (lv' := [(2, .int (nI n)), (1, .ref arr), (0, .ref q)]) hx hb dJx4a65c_clear_da8c8_19 rfl hl (by decide) rfl (fun ls hl => ?_)
  refine lv_aload_n hx hb dJx4a65c_clear_da8c8_20 rfl (lv_at hl 2 rfl) ?_
  refine lv_iconst (v := 0) hx hb dJx4a65c_clear_da8c8_21 (by decide) ?_
  refine lv_dup_x1 hx hb dJx4a65c_clear_da8c8_22 rfl rfl ?_
  refine r2_put hC hK hS (Or.inl rfl) ho lay_Jx4a65c tyJx4a65c tyJx4a65c_ok nmJx4a65c rfl 2 (by decide) fl_Jx4a65c_48 (fun x hx => hx) rfl rfl rfl (Nat.le_of_ble_eq_true rfl) dJx4a65c_clear_da8c8_23 (fun H locs ho z_ oq_ hS => ?_)
  have ho : va_at G.1 gCl (q, .inr (10, [.int (md + 1), .ref arr, .int 0])) H := ho
  have ha := ha.kept (oq_ _ hqa)
  clear z_ oq_
  refine lv_istore_n (lv' := [(3, .int 0), (2, .int (nI n)), (1, .ref arr), (0, .ref q)]) hx hb dJx4a65c_clear_da8c8_26 rfl hl (by decide) rfl (fun ls hl => ?_)
  have loop1 : ∀ (n_ : Nat) (i : Nat) (H : Heap) (locs : List Loc) (hi : i ≤ n) (ho : LO G q arr 0 (md + 1) H) (ha : va_at G.1 gCl (arr, qE G cap (clf i n f)) H) (hS : va_S (rvB q arr N) s.heap H locs) (ls : Array Slot), n - i < n_ → lv_has ls 4 [(3, .int (nI i)), (2, .int (nI n)), (1, .ref arr), (0, .ref q)] → W p l e (rmL 0 0 0) s m args below meth c H locs 0 0 Q (F0 m 27 ls []) := by
    intro n_
    induction n_ with
    | zero => intro i H locs hi ho ha hS ls hm hl; omega
    | succ n_ ih1 =>
      intro i H locs hi ho ha hS ls hm hl
      refine lv_iload_n hx hb dJx4a65c_clear_da8c8_27 rfl (lv_at hl 0 rfl) ?_
      refine lv_iload_n hx hb dJx4a65c_clear_da8c8_28 rfl (lv_at hl 1 rfl) ?_
      refine ln_ge (tgt := 42) (a := i) (b := n) hx hb dJx4a65c_clear_da8c8_29 (by decide) rfl rfl (by omega) (by omega) (fun c_2t => ?_) (fun c_2f => ?_)
      · subst hQ
        exact rt_qv () hx hb hr hlk hS trivial (fun t ht _ => ⟨by rw [ht]; exact ho, by rw [ht]; exact qE_cg ha (fun j _ => clf_n (by omega) j)⟩) (by show 0 ≤ 0; omega) (by show 0 ≤ 0; omega) dJx4a65c_clear_da8c8_42
      · refine lv_aload_n hx hb dJx4a65c_clear_da8c8_32 rfl (lv_at hl 2 rfl) ?_
        refine lv_iload_n hx hb dJx4a65c_clear_da8c8_33 rfl (lv_at hl 0 rfl) ?_
        refine lv_null hx hb dJx4a65c_clear_da8c8_34 ?_
        refine r2_qstN hC hK ha hS (Or.inr (Or.inl rfl)) (i := i) (by omega) (by omega) dJx4a65c_clear_da8c8_35 (fun H locs ha z_ oq_ hS => ?_)
        have ho := ho.kept (oq_ _ hqa.symm)
        clear z_ oq_
        refine lv_iinc (v := nI (i + 1)) (lv' := [(3, .int (nI (i + 1))), (2, .int (nI n)), (1, .ref arr), (0, .ref q)]) hx hb dJx4a65c_clear_da8c8_36 hl (k := 0) rfl (nI_inc _) (by decide) rfl (fun ls hl => ?_)
        refine lv_goto (tgt := 27) hx hb dJx4a65c_clear_da8c8_39 (by decide) ?_
        exact ih1 (i + 1) H locs (by omega) ho (qE_cg ha (fun j _ => clf_s j)) hS ls (by omega) (lv_sub hl [0, 1, 2, 3] rfl)
  exact loop1 ((n - 0) + 1) 0 H locs (Nat.zero_le _) ho (qE_cg ha (fun j _ => clf_0 j)) hS ls (by omega) (lv_sub hl [0, 1, 2, 3] rfl)
set_option maxHeartbeats 4000000 in
set_option maxRecDepth 100000 in
theorem cJ_clearF (l : Launch) (G : gG) (d0 q : Nat) (md : Int32) (N : Nat) : Met l yJx4a65c_clear_da8c8 (wB yJx4a65c_clear_da8c8 cJx4a65c_clear_da8c8 4 none) (rmL 0 0 0) (va_Pc [.ref q] (fun S => S.heap.size = N ∧ LO G q d0 0 md S.heap ∧ gK G S)) (va_Qv (S := Unit) (fun _ => True) (fun _ t => LO G q d0 0 (md + 1) t.heap) (rvA q N)) 0 0 (rvA q N) := by
  refine st_N (own := RJx4a65c) (by decide +kernel) rfl (Nat.le_of_ble_eq_true rfl) ?_
  intro p e s m below meth c ls args Q hQ hC hr hlk hnm hl hP
  obtain ⟨hN, ho, hK⟩ := hP
  have hx := hC.1
  have hb := hC.2.1
  have hl : lv_has ls 4 [(0, .ref q)] := hl
  obtain ⟨H, locs, hHe, hLe⟩ : ∃ (H : Heap) (locs : List Loc), H = s.heap ∧ locs = [] := ⟨_, _, rfl, rfl⟩
  have hS : va_S (rvA q N) s.heap H locs := by rw [hHe, hLe]; exact va_S.rf
  rw [← hHe] at ho
  suffices hgo : W p l e (rmL 0 0 0) s m args below meth c H locs 0 0 Q (F0 m 0 ls []) by
    rw [hHe, hLe] at hgo
    exact hgo
  clear hLe
  refine lv_aload_n hx hb dJx4a65c_clear_da8c8_0 rfl (lv_at hl 0 rfl) ?_
  refine lv_dup hx hb dJx4a65c_clear_da8c8_1 rfl ?_
  refine r1_get hC hK.1 ho lay_Jx4a65c rfl 0 (by decide) fl_Jx4a65c_63 (sf_mod hC) (v := .int md) rfl dJx4a65c_clear_da8c8_2 ?_
  refine lv_iconst (v := 1) hx hb dJx4a65c_clear_da8c8_5 (by decide) ?_
  refine lv_iadd hx hb dJx4a65c_clear_da8c8_6 ?_
  refine r2_put hC hK hS (Or.inl rfl) ho lay_Jx4a65c tyJx4a65c tyJx4a65c_ok nmJx4a65c rfl 0 (by decide) fl_Jx4a65c_63 (sf_mod hC) rfl rfl rfl (Nat.le_of_ble_eq_true rfl) dJx4a65c_clear_da8c8_7 (fun H locs ho z_ oq_ hS => ?_)
  have ho : va_at G.1 gCl (q, .inr (10, [.int (md + 1), .ref d0, .int (nI 0)])) H := ho
  clear z_ oq_
  refine lv_aload_n hx hb dJx4a65c_clear_da8c8_10 rfl (lv_at hl 0 rfl) ?_
  refine r1_get hC hK.1 ho lay_Jx4a65c rfl 1 (by decide) fl_Jx4a65c_9 (fun x hx => hx) (v := .ref d0) rfl dJx4a65c_clear_da8c8_11 ?_
  refine lv_astore_n (lv' := [(1, .ref d0), (0, .ref q)]) hx hb dJx4a65c_clear_da8c8_14 rfl hl (by decide) rfl (fun ls hl => ?_)
  refine lv_aload_n hx hb dJx4a65c_clear_da8c8_15 rfl (lv_at hl 1 rfl) ?_
  refine r1_get hC hK.1 ho lay_Jx4a65c rfl 2 (by decide) fl_Jx4a65c_48 (fun x hx => hx) (v := .int (nI 0)) rfl dJx4a65c_clear_da8c8_16 ?_
  refine lv_istore_n (lv' := [(2, .int (nI 0)), (1, .ref d0), (0, .ref q)]) hx hb dJx4a65c_clear_da8c8_19 rfl hl (by decide) rfl (fun ls hl => ?_)
  refine lv_aload_n hx hb dJx4a65c_clear_da8c8_20 rfl (lv_at hl 2 rfl) ?_
  refine lv_iconst (v := 0) hx hb dJx4a65c_clear_da8c8_21 (by decide) ?_
  refine lv_dup_x1 hx hb dJx4a65c_clear_da8c8_22 rfl rfl ?_
  refine r2_put hC hK hS (Or.inl rfl) ho lay_Jx4a65c tyJx4a65c tyJx4a65c_ok nmJx4a65c rfl 2 (by decide) fl_Jx4a65c_48 (fun x hx => hx) rfl rfl rfl (Nat.le_of_ble_eq_true rfl) dJx4a65c_clear_da8c8_23 (fun H locs ho z_ oq_ hS => ?_)
  have ho : va_at G.1 gCl (q, .inr (10, [.int (md + 1), .ref d0, .int 0])) H := ho
  clear z_ oq_
  refine lv_istore_n (lv' := [(3, .int 0), (2, .int (nI 0)), (1, .ref d0), (0, .ref q)]) hx hb dJx4a65c_clear_da8c8_26 rfl hl (by decide) rfl (fun ls hl => ?_)
  refine lv_iload_n hx hb dJx4a65c_clear_da8c8_27 rfl (lv_at hl 0 rfl) ?_
  refine lv_iload_n hx hb dJx4a65c_clear_da8c8_28 rfl (lv_at hl 1 rfl) ?_
  refine ln_ge (tgt := 42) (a := 0) (b := 0) hx hb dJx4a65c_clear_da8c8_29 (by decide) rfl rfl (by omega) (by omega) (fun _ => ?_) (fun c => absurd (Nat.le_refl 0) c)
  subst hQ
  exact rt_qv () hx hb hr hlk hS trivial (fun t ht _ => by rw [ht]; exact ho) (by show 0 ≤ 0; omega) (by show 0 ≤ 0; omega) dJx4a65c_clear_da8c8_42
def qPv : Array Value → State → Outcome → State → Prop := fun _ st o t => o = .returned none ∧ t.heap = st.heap
section PV
variable {p : Program} {l : Launch} {e : Env} {R : Room} {s : State} {m : MethodId} {args : Array Value} {below : List Frame} {meth : Method} {c : Code} {H : Heap} {locs : List Loc} {cells slots : Nat} {Q : State → Prop}
variable {cc : ByteArray} {pc : Nat} {ls : Array Slot} {rest st0 : List Value}
/-- a call of a void method that changes nothing -/
theorem cl_pv {a : Array Value} (hr : va_Run p l e R s m args below meth c H locs cells slots 0 0 (F0 m pc ls st0) rest (qPv a) fN) (kk : W p l e R s m args below meth c H locs cells slots Q (F0 m (pc + 3) ls rest)) : W p l e R s m args below meth c H locs cells slots Q (F0 m pc ls st0) := by
  intro T hT X
  obtain ⟨v, st₀, t, T', L, h0, X', hL, e1, e2, ⟨hv, hh⟩, st⟩ := hr T hT X
  cases hv
  have hLn : L = [] := by
    cases L with
    | nil => rfl
    | cons q _ => exact (hL q List.mem_cons_self).elim
  subst hLn
  rw [List.append_nil] at X'
  obtain ⟨t2, a1, b1⟩ := kk T' (by rw [e1, hh, h0]) X'
  exact ⟨t2, st t2 a1, b1⟩
theorem rt_pv (hx : p.tables.exec = Jvm.exec) (hb : c.code = cc) (hr : meth.sig.returnType = none) (hlk : meth.locks = false) (hdg : decode cc pc = .ok (.return_, 1)) : W p l e R s m args below meth c s.heap [] 0 0 (MQ below qPv args s 0 0 fN) (F0 m pc ls []) :=
  W.vret hx hb hr (fun t ht _ => ⟨rfl, ht⟩) (fun q hq => nomatch hq) hdg hlk
end PV
set_option maxHeartbeats 4000000 in
set_option maxRecDepth 100000 in
theorem cJ_Jx4a65c_rangeCheckForAdd_d00df (l : Launch) (G : gG) (q arr n i : Nat) (md : Int32) (hi : i ≤ n) (hn : n ≤ 40000) : Met l yJx4a65c_rangeCheckForAdd_d00df (wB yJx4a65c_rangeCheckForAdd_d00df cJx4a65c_rangeCheckForAdd_d00df 2 none) (rmL 0 0 0) (va_Pc [.ref q, .int (nI i)] (fun S => LO G q arr n md S.heap ∧ gK G S)) (qPv) 0 0 fN := by
  refine st_N (own := RJx4a65c) (by decide +kernel) rfl (Nat.le_of_ble_eq_true rfl) ?_
  intro p e s m below meth c ls args Q hQ hC hr hlk hnm hl hP
  obtain ⟨ho, hK⟩ := hP
  have hx := hC.1
  have hb := hC.2.1
  have hl : lv_has ls 2 [(0, .ref q), (1, .int (nI i))] := hl
  refine lv_iload_n hx hb dJx4a65c_rangeCheckForAdd_d00df_0 rfl (lv_at hl 1 rfl) ?_
  refine lv_aload_n hx hb dJx4a65c_rangeCheckForAdd_d00df_1 rfl (lv_at hl 0 rfl) ?_
  refine r1_get hC hK.1 ho lay_Jx4a65c rfl 2 (by decide) fl_Jx4a65c_48 (fun x hx => hx) (v := .int (nI n)) rfl dJx4a65c_rangeCheckForAdd_d00df_2 ?_
  refine ln_gt (tgt := 12) (a := i) (b := n) hx hb dJx4a65c_rangeCheckForAdd_d00df_5 (by decide) rfl rfl (by omega) (by omega) (fun c => absurd c (by omega)) (fun _ => ?_)
  refine lv_iload_n hx hb dJx4a65c_rangeCheckForAdd_d00df_8 rfl (lv_at hl 1 rfl) ?_
  refine lv_if_ge (tgt := 25) hx hb dJx4a65c_rangeCheckForAdd_d00df_9 (by decide) (fun _ => ?_) (fun c => absurd (nI_pos' (by omega)) c)
  subst hQ
  exact rt_pv hx hb hr hlk dJx4a65c_rangeCheckForAdd_d00df_25
set_option maxHeartbeats 4000000 in
set_option maxRecDepth 100000 in
theorem cJ_insN (l : Launch) (G : gG) (q arr cap n i x : Nat) (f : Nat → Nat) (md : Int32) (N : Nat) (hi : i ≤ n) (hn : n < cap) (hcap : cap ≤ 40000) (hqa : arr ≠ q) (hxq : x ≠ q) (hxa : x ≠ arr) (hel2 : ∀ i, i < n → f i ≠ q) (hel3 : ∀ i, i < n → f i ≠ arr) : Met l yJx4a65c_add_7a177 (wB yJx4a65c_add_7a177 cJx4a65c_add_7a177 5 none) (rmL 1 0 0) (va_Pc [.ref q, .int (nI i), .ref x] (fun S => S.heap.size = N ∧ LO G q arr n md S.heap ∧ LA G arr cap n f S.heap ∧ gAny S S.heap x ∧ (∀ i, i < n → gAny S S.heap (f i)) ∧ gK G S)) (va_Qv (S := Unit) (fun _ => True) (fun _ t => LO G q arr (n + 1) (md + 1) t.heap ∧ LA G arr cap (n + 1) (fin_ f i x) t.heap) (rvB q arr N)) 0 0 (rvB q arr N) := by
  refine st_N (own := RJx4a65c) (by decide +kernel) rfl (Nat.le_of_ble_eq_true rfl) ?_
  intro p e s m below meth c ls args Q hQ hC hr hlk hnm hl hP
  obtain ⟨hN, ho, ha, hax, hel, hK⟩ := hP
  have hax0 := hax
  have hxN : x < N := by rw [← hN]; exact hax.lt
  have hx := hC.1
  have hb := hC.2.1
  have hl : lv_has ls 5 [(0, .ref q), (1, .int (nI i)), (2, .ref x)] := hl
  obtain ⟨H, locs, hHe, hLe⟩ : ∃ (H : Heap) (locs : List Loc), H = s.heap ∧ locs = [] := ⟨_, _, rfl, rfl⟩
  have hS : va_S (rvB q arr N) s.heap H locs := by rw [hHe, hLe]; exact va_S.rf
  rw [← hHe] at ho
  rw [← hHe] at ha
  rw [← hHe] at hax hel
  suffices hgo : W p l e (rmL 1 0 0) s m args below meth c H locs 0 0 Q (F0 m 0 ls []) by
    rw [hHe, hLe] at hgo
    exact hgo
  clear hLe
  refine lv_aload_n hx hb dJx4a65c_add_7a177_0 rfl (lv_at hl 0 rfl) ?_
  refine lv_iload_n hx hb dJx4a65c_add_7a177_1 rfl (lv_at hl 1 rfl) ?_
  refine cl_pv (run_V hC (cJ_Jx4a65c_rangeCheckForAdd_d00df l G q arr n i md hi (by omega)) (As := [.int (nI i)]) (rest := []) rfl rfl ml_Jx4a65c_135 im_Jx4a65c_rangeCheckForAdd_d00df se_Jx4a65c_rangeCheckForAdd_d00df ini_Jx4a65c cd_Jx4a65c_rangeCheckForAdd_d00df ⟨rfl, na_Jx4a65c_rangeCheckForAdd_d00df⟩ oB_blind (ls_recv hK ho rfl) (fun U hU hW => ⟨by rw [hU]; exact ho, hK.warm hW⟩) hl.1 (Nat.le_of_ble_eq_true rfl) ⟨Nat.le_of_ble_eq_true rfl, Nat.le_of_ble_eq_true rfl⟩ ⟨Nat.le_refl _, Nat.le_refl _⟩ rfl dJx4a65c_add_7a177_2) ?_
  refine lv_aload_n hx hb dJx4a65c_add_7a177_5 rfl (lv_at hl 0 rfl) ?_
  refine lv_dup hx hb dJx4a65c_add_7a177_6 rfl ?_
  refine r1_get hC hK.1 ho lay_Jx4a65c rfl 0 (by decide) fl_Jx4a65c_63 (sf_mod hC) (v := .int md) rfl dJx4a65c_add_7a177_7 ?_
  refine lv_iconst (v := 1) hx hb dJx4a65c_add_7a177_10 (by decide) ?_
  refine lv_iadd hx hb dJx4a65c_add_7a177_11 ?_
  refine r2_put hC hK hS (Or.inl rfl) ho lay_Jx4a65c tyJx4a65c tyJx4a65c_ok nmJx4a65c rfl 0 (by decide) fl_Jx4a65c_63 (sf_mod hC) rfl rfl rfl (Nat.le_of_ble_eq_true rfl) dJx4a65c_add_7a177_12 (fun H locs ho z_ oq_ hS => ?_)
  have ho : va_at G.1 gCl (q, .inr (10, [.int (md + 1), .ref arr, .int (nI n)])) H := ho
  have ha := ha.kept (oq_ _ hqa)
  have hax := hax.kept (oq_ _ hxq)
  have hel : ∀ i, i < n → gAny s H (f i) := fun i hi => (hel i hi).kept (oq_ _ (hel2 i hi))
  clear z_ oq_
  refine lv_aload_n hx hb dJx4a65c_add_7a177_15 rfl (lv_at hl 0 rfl) ?_
  refine r1_get hC hK.1 ho lay_Jx4a65c rfl 2 (by decide) fl_Jx4a65c_48 (fun x hx => hx) (v := .int (nI n)) rfl dJx4a65c_add_7a177_16 ?_
  refine lv_dup hx hb dJx4a65c_add_7a177_19 rfl ?_
  refine lv_istore_n (lv' := [(3, .int (nI n)), (0, .ref q), (1, .int (nI i)), (2, .ref x)]) hx hb dJx4a65c_add_7a177_20 rfl hl (by decide) rfl (fun ls hl => ?_)
  refine lv_aload_n hx hb dJx4a65c_add_7a177_21 rfl (lv_at hl 1 rfl) ?_
  refine r1_get hC hK.1 ho lay_Jx4a65c rfl 1 (by decide) fl_Jx4a65c_9 (fun x hx => hx) (v := .ref arr) rfl dJx4a65c_add_7a177_22 ?_
  refine lv_dup hx hb dJx4a65c_add_7a177_25 rfl ?_
  refine lv_astore (lv' := [(4, .ref arr), (3, .int (nI n)), (0, .ref q), (1, .int (nI i)), (2, .ref x)]) hx hb dJx4a65c_add_7a177_26 hl (by decide) rfl (fun ls hl => ?_)
  refine r2_qlen hC hK ha dJx4a65c_add_7a177_28 ?_
  refine ln_ne (tgt := 38) (a := n) (b := cap) hx hb dJx4a65c_add_7a177_29 (by decide) rfl rfl (by omega) (by omega) (fun _ => ?_) (fun c => absurd c (by omega))
  refine lv_aload hx hb dJx4a65c_add_7a177_38 (lv_at hl 0 rfl) ?_
  refine lv_iload_n hx hb dJx4a65c_add_7a177_40 rfl (lv_at hl 3 rfl) ?_
  refine lv_aload hx hb dJx4a65c_add_7a177_41 (lv_at hl 0 rfl) ?_
  refine lv_iload_n hx hb dJx4a65c_add_7a177_43 rfl (lv_at hl 3 rfl) ?_
  refine lv_iconst (v := 1) hx hb dJx4a65c_add_7a177_44 (by decide) ?_
  refine lv_iadd hx hb dJx4a65c_add_7a177_45 ?_
  refine top_i (y := nI (i + 1)) (nI_add i 1) ?_
  refine lv_iload_n hx hb dJx4a65c_add_7a177_46 rfl (lv_at hl 1 rfl) ?_
  refine lv_iload_n hx hb dJx4a65c_add_7a177_47 rfl (lv_at hl 3 rfl) ?_
  refine lv_isub hx hb dJx4a65c_add_7a177_48 ?_
  refine top_i (y := nI (n - i)) (pk_sub (a := n) (b := i) (by omega)) ?_
  refine r2_copy1 hC hK (n := cap) (sp := i) (dp := (i + 1)) (k := (n - i)) ha ho (hqa) hS (Or.inr (Or.inl rfl)) (Or.inl rfl) ml_Jx4a65c_112 hl.1 (by omega) (by omega) (by omega) (fun i_ hi_ y_ hy_ => ?_) ⟨Nat.le_of_ble_eq_true rfl, Nat.le_of_ble_eq_true rfl⟩ (Nat.le_of_ble_eq_true rfl) dJx4a65c_add_7a177_49 (fun H1 locs1 ha1_ ho1_ hS1_ => ?_)
  · obtain ⟨h1, h2⟩ := lf_lt (show lf n f (i + i_) = some y_ from hy_)
    rw [← h2]
    exact hel _ h1
  have hax := hax0.kept (hS1_.2.1 _ hax0.lt (fun h => h.elim (fun e => hxq e) (fun h => h.elim (fun e => hxa e) (fun e => by omega))))
  clear hel
  clear ha ho hS
  have ha := ha1_
  have ho := ho1_
  have hS := hS1_
  refine lv_aload hx hb dJx4a65c_add_7a177_52 (lv_at hl 0 rfl) ?_
  refine lv_iload_n hx hb dJx4a65c_add_7a177_54 rfl (lv_at hl 3 rfl) ?_
  refine lv_aload_n hx hb dJx4a65c_add_7a177_55 rfl (lv_at hl 4 rfl) ?_
  refine r2_qst hC hK ha hS (Or.inr (Or.inl rfl)) hax (i := i) (by omega) (by omega) dJx4a65c_add_7a177_56 (fun H locs ha z_ oq_ hS => ?_)
  have ho := ho.kept (oq_ _ hqa.symm)
  clear z_ oq_
  have ha : va_at G.1 gCl (arr, qE G cap (lf (n + 1) (fin_ f i x))) H := qE_cg ha (fun j _ => in_lf hi j)
  refine lv_aload_n hx hb dJx4a65c_add_7a177_57 rfl (lv_at hl 2 rfl) ?_
  refine lv_iload_n hx hb dJx4a65c_add_7a177_58 rfl (lv_at hl 1 rfl) ?_
  refine lv_iconst (v := 1) hx hb dJx4a65c_add_7a177_59 (by decide) ?_
  refine lv_iadd hx hb dJx4a65c_add_7a177_60 ?_
  refine top_i (y := nI (n + 1)) (nI_add n 1) ?_
  refine r2_put hC hK hS (Or.inl rfl) ho lay_Jx4a65c tyJx4a65c tyJx4a65c_ok nmJx4a65c rfl 2 (by decide) fl_Jx4a65c_48 (fun x hx => hx) rfl rfl rfl (Nat.le_of_ble_eq_true rfl) dJx4a65c_add_7a177_61 (fun H locs ho z_ oq_ hS => ?_)
  have ho : va_at G.1 gCl (q, .inr (10, [.int (md + 1), .ref arr, .int (nI (n + 1))])) H := ho
  have ha := ha.kept (oq_ _ hqa)
  clear z_ oq_
  subst hQ
  exact rt_qv () hx hb hr hlk hS trivial (fun t ht _ => ⟨by rw [ht]; exact ho, by rw [ht]; exact ha⟩) (by show 0 ≤ 0; omega) (by show 0 ≤ 0; omega) dJx4a65c_add_7a177_64
set_option maxHeartbeats 4000000 in
set_option maxRecDepth 100000 in
theorem cJ_insF (l : Launch) (G : gG) (d0 mi q x : Nat) (md : Int32) (N : Nat) (hxq : x ≠ q) : Met l yJx4a65c_add_7a177 (wB yJx4a65c_add_7a177 cJx4a65c_add_7a177 5 none) (rmL 5 1 10) (va_Pc [.ref q, .int (nI 0), .ref x] (fun S => S.heap.size = N ∧ LO G q d0 0 md S.heap ∧ gAny S S.heap x ∧ gX G d0 mi (rvA q N) S)) (va_Qv (S := Nat) (fun _ => True) (fun z t => N ≤ z ∧ LO G q z 1 (md + 1) t.heap ∧ LA G z 10 1 (fun _ => x) t.heap) (rvA q N)) 1 10 (rvA q N) := by
  refine st_N (own := RJx4a65c) (by decide +kernel) rfl (Nat.le_of_ble_eq_true rfl) ?_
  intro p e s m below meth c ls args Q hQ hC hr hlk hnm hl hP
  obtain ⟨hN, ho, hax, hX⟩ := hP
  have hK := hX.1
  have hqN : q < N := by rw [← hN]; exact ho.lt
  have hxN : x < N := by rw [← hN]; exact hax.lt
  have hax0 := hax
  have hx := hC.1
  have hb := hC.2.1
  have hl : lv_has ls 5 [(0, .ref q), (1, .int (nI 0)), (2, .ref x)] := hl
  obtain ⟨H, locs, hHe, hLe⟩ : ∃ (H : Heap) (locs : List Loc), H = s.heap ∧ locs = [] := ⟨_, _, rfl, rfl⟩
  have hS : va_S (rvA q N) s.heap H locs := by rw [hHe, hLe]; exact va_S.rf
  rw [← hHe] at ho
  have hsz0 : H.size = s.heap.size := by rw [hHe]
  rw [← hHe] at hax
  suffices hgo : W p l e (rmL 5 1 10) s m args below meth c H locs 0 0 Q (F0 m 0 ls []) by
    rw [hHe, hLe] at hgo
    exact hgo
  clear hLe
  refine lv_aload_n hx hb dJx4a65c_add_7a177_0 rfl (lv_at hl 0 rfl) ?_
  refine lv_iload_n hx hb dJx4a65c_add_7a177_1 rfl (lv_at hl 1 rfl) ?_
  refine cl_pv (run_V hC (cJ_Jx4a65c_rangeCheckForAdd_d00df l G q d0 0 0 md (Nat.le_refl _) (by omega)) (As := [.int (nI 0)]) (rest := []) rfl rfl ml_Jx4a65c_135 im_Jx4a65c_rangeCheckForAdd_d00df se_Jx4a65c_rangeCheckForAdd_d00df ini_Jx4a65c cd_Jx4a65c_rangeCheckForAdd_d00df ⟨rfl, na_Jx4a65c_rangeCheckForAdd_d00df⟩ oB_blind (ls_recv hK ho rfl) (fun U hU hW => ⟨by rw [hU]; exact ho, hK.warm hW⟩) hl.1 (Nat.le_of_ble_eq_true rfl) ⟨Nat.le_of_ble_eq_true rfl, Nat.le_of_ble_eq_true rfl⟩ ⟨by show 0 + 0 ≤ 1; omega, by show 0 + 0 ≤ 10; omega⟩ rfl dJx4a65c_add_7a177_2) ?_
  refine lv_aload_n hx hb dJx4a65c_add_7a177_5 rfl (lv_at hl 0 rfl) ?_
  refine lv_dup hx hb dJx4a65c_add_7a177_6 rfl ?_
  refine r1_get hC hK.1 ho lay_Jx4a65c rfl 0 (by decide) fl_Jx4a65c_63 (sf_mod hC) (v := .int md) rfl dJx4a65c_add_7a177_7 ?_
  refine lv_iconst (v := 1) hx hb dJx4a65c_add_7a177_10 (by decide) ?_
  refine lv_iadd hx hb dJx4a65c_add_7a177_11 ?_
  refine r2_put hC hK hS (Or.inl rfl) ho lay_Jx4a65c tyJx4a65c tyJx4a65c_ok nmJx4a65c rfl 0 (by decide) fl_Jx4a65c_63 (sf_mod hC) rfl rfl rfl (Nat.le_of_ble_eq_true rfl) dJx4a65c_add_7a177_12 (fun H locs ho z_ oq_ hS => ?_)
  have ho : va_at G.1 gCl (q, .inr (10, [.int (md + 1), .ref d0, .int (nI 0)])) H := ho
  have hsz0 : H.size = s.heap.size := z_.trans hsz0
  clear z_ oq_
  refine lv_aload_n hx hb dJx4a65c_add_7a177_15 rfl (lv_at hl 0 rfl) ?_
  refine r1_get hC hK.1 ho lay_Jx4a65c rfl 2 (by decide) fl_Jx4a65c_48 (fun x hx => hx) (v := .int (nI 0)) rfl dJx4a65c_add_7a177_16 ?_
  refine lv_dup hx hb dJx4a65c_add_7a177_19 rfl ?_
  refine lv_istore_n (lv' := [(3, .int (nI 0)), (0, .ref q), (1, .int (nI 0)), (2, .ref x)]) hx hb dJx4a65c_add_7a177_20 rfl hl (by decide) rfl (fun ls hl => ?_)
  refine lv_aload_n hx hb dJx4a65c_add_7a177_21 rfl (lv_at hl 1 rfl) ?_
  refine r1_get hC hK.1 ho lay_Jx4a65c rfl 1 (by decide) fl_Jx4a65c_9 (fun x hx => hx) (v := .ref d0) rfl dJx4a65c_add_7a177_22 ?_
  refine lv_dup hx hb dJx4a65c_add_7a177_25 rfl ?_
  refine lv_astore (lv' := [(4, .ref d0), (3, .int (nI 0)), (0, .ref q), (1, .int (nI 0)), (2, .ref x)]) hx hb dJx4a65c_add_7a177_26 hl (by decide) rfl (fun ls hl => ?_)
  refine va_tlen hx hb hX.2.2.2 hS (v := 0) rfl dJx4a65c_add_7a177_28 ?_
  refine ln_ne (tgt := 38) (a := 0) (b := 0) hx hb dJx4a65c_add_7a177_29 (by decide) rfl rfl (by omega) (by omega) (fun c => absurd rfl c) (fun _ => ?_)
  refine lv_aload_n hx hb dJx4a65c_add_7a177_32 rfl (lv_at hl 2 rfl) ?_
  refine va_callr (run_V hC (cJ_grow0F l G d0 mi q (md + 1) N) (As := []) (rest := []) rfl rfl ml_Jx4a65c_129 im_Jx4a65c_grow_d5877 se_Jx4a65c_grow_d5877 ini_Jx4a65c cd_Jx4a65c_grow_d5877 ⟨rfl, na_Jx4a65c_grow_d5877⟩ xB_blind (ls_recv hK ho rfl) (fun U hU hW => ⟨by rw [hU, hsz0]; exact hN, by rw [hU]; exact ho, hX.at hS (fun _ h => h) hU hW⟩) hl.1 (Nat.le_of_ble_eq_true rfl) ⟨Nat.le_of_ble_eq_true rfl, Nat.le_of_ble_eq_true rfl⟩ ⟨by show 0 + 1 ≤ 1; omega, by show 0 + 10 ≤ 10; omega⟩ rfl dJx4a65c_add_7a177_33) hS (fun z_ _ h => h) (fun z_ h => h) (fun _ z tt H1 locs1 ht_ _ _ hB_ hz1_ oq_ hS => ?_)
  rw [ht_] at hB_
  obtain ⟨hzN, ho, haz⟩ := hB_
  clear hsz0
  refine lv_astore (lv' := [(4, .ref z), (3, .int (nI 0)), (0, .ref q), (1, .int (nI 0)), (2, .ref x)]) hx hb dJx4a65c_add_7a177_36 hl (by decide) rfl (fun ls hl => ?_)
  refine lv_aload hx hb dJx4a65c_add_7a177_38 (lv_at hl 0 rfl) ?_
  refine lv_iload_n hx hb dJx4a65c_add_7a177_40 rfl (lv_at hl 3 rfl) ?_
  refine lv_aload hx hb dJx4a65c_add_7a177_41 (lv_at hl 0 rfl) ?_
  refine lv_iload_n hx hb dJx4a65c_add_7a177_43 rfl (lv_at hl 3 rfl) ?_
  refine lv_iconst (v := 1) hx hb dJx4a65c_add_7a177_44 (by decide) ?_
  refine lv_iadd hx hb dJx4a65c_add_7a177_45 ?_
  refine top_i (y := nI (0 + 1)) (nI_add 0 1) ?_
  refine lv_iload_n hx hb dJx4a65c_add_7a177_46 rfl (lv_at hl 1 rfl) ?_
  refine lv_iload_n hx hb dJx4a65c_add_7a177_47 rfl (lv_at hl 3 rfl) ?_
  refine lv_isub hx hb dJx4a65c_add_7a177_48 ?_
  refine top_i (y := nI (0 - 0)) (pk_sub (a := 0) (b := 0) (by omega)) ?_
  refine r2_copy1 hC hK (n := 10) (sp := 0) (dp := (0 + 1)) (k := (0 - 0)) haz ho ((by omega)) hS (Or.inr hzN) (Or.inl rfl) ml_Jx4a65c_112 hl.1 (by omega) (by omega) (by omega) (fun i_ hi_ y_ hy_ => ?_) ⟨Nat.le_of_ble_eq_true rfl, Nat.le_of_ble_eq_true rfl⟩ (Nat.le_of_ble_eq_true rfl) dJx4a65c_add_7a177_49 (fun H1 locs1 ha1_ ho1_ hS1_ => ?_)
  · omega
  have hax := hax0.kept (hS1_.2.1 _ hax0.lt (fun h => h.elim (fun e => hxq e) (fun e => by omega)))
  clear haz ho hS
  have haz := ha1_
  have ho := ho1_
  have hS := hS1_
  refine lv_aload hx hb dJx4a65c_add_7a177_52 (lv_at hl 0 rfl) ?_
  refine lv_iload_n hx hb dJx4a65c_add_7a177_54 rfl (lv_at hl 3 rfl) ?_
  refine lv_aload_n hx hb dJx4a65c_add_7a177_55 rfl (lv_at hl 4 rfl) ?_
  refine r2_qst hC hK haz hS (Or.inr hzN) hax (i := 0) (by omega) (by omega) dJx4a65c_add_7a177_56 (fun H locs haz z_ oq_ hS => ?_)
  have ho := ho.kept (oq_ _ (by omega))
  clear z_ oq_
  have haz : va_at G.1 gCl (z, qE G 10 (lf 1 (fun _ => x))) H := qE_cg haz (fun j _ => in0_lf j)
  refine lv_aload_n hx hb dJx4a65c_add_7a177_57 rfl (lv_at hl 2 rfl) ?_
  refine lv_iload_n hx hb dJx4a65c_add_7a177_58 rfl (lv_at hl 1 rfl) ?_
  refine lv_iconst (v := 1) hx hb dJx4a65c_add_7a177_59 (by decide) ?_
  refine lv_iadd hx hb dJx4a65c_add_7a177_60 ?_
  refine top_i (y := nI (0 + 1)) (nI_add 0 1) ?_
  refine r2_put hC hK hS (Or.inl rfl) ho lay_Jx4a65c tyJx4a65c tyJx4a65c_ok nmJx4a65c rfl 2 (by decide) fl_Jx4a65c_48 (fun x hx => hx) rfl rfl rfl (Nat.le_of_ble_eq_true rfl) dJx4a65c_add_7a177_61 (fun H locs ho z_ oq_ hS => ?_)
  have ho : va_at G.1 gCl (q, .inr (10, [.int (md + 1), .ref z, .int (nI (0 + 1))])) H := ho
  have haz := haz.kept (oq_ _ (by omega))
  clear z_ oq_
  subst hQ
  exact rt_qv z hx hb hr hlk hS trivial (fun t ht _ => ⟨hzN, by rw [ht]; exact ho, by rw [ht]; exact haz⟩) (by show 0 + 1 ≤ 1; omega) (by show 0 + 10 ≤ 10; omega) dJx4a65c_add_7a177_64
set_option maxHeartbeats 4000000 in
set_option maxRecDepth 100000 in
theorem cJ_Jx4a65c_fastRemove_b59b0 (l : Launch) (G : gG) (q arr cap n i : Nat) (f : Nat → Nat) (md : Int32) (N : Nat) (hi : i < n) (hn : n ≤ cap) (hcap : cap ≤ 40000) (hqa : arr ≠ q) (hel2 : ∀ i, i < n → f i ≠ q) : Met l yJx4a65c_fastRemove_b59b0 (wB yJx4a65c_fastRemove_b59b0 cJx4a65c_fastRemove_b59b0 4 none) (rmL 1 0 0) (va_Pc [.ref q, .ref arr, .int (nI i)] (fun S => S.heap.size = N ∧ LO G q arr n md S.heap ∧ LA G arr cap n f S.heap ∧ (∀ i, i < n → gAny S S.heap (f i)) ∧ gK G S)) (va_Qv (S := Unit) (fun _ => True) (fun _ t => LO G q arr (n - 1) (md + 1) t.heap ∧ LA G arr cap (n - 1) (frm f i) t.heap) (rvB q arr N)) 0 0 (rvB q arr N) := by
  refine st_N (own := RJx4a65c) (by decide +kernel) rfl (Nat.le_of_ble_eq_true rfl) ?_
  intro p e s m below meth c ls args Q hQ hC hr hlk hnm hl hP
  obtain ⟨hN, ho, ha, hel, hK⟩ := hP
  have hx := hC.1
  have hb := hC.2.1
  have hl : lv_has ls 4 [(0, .ref q), (1, .ref arr), (2, .int (nI i))] := hl
  obtain ⟨H, locs, hHe, hLe⟩ : ∃ (H : Heap) (locs : List Loc), H = s.heap ∧ locs = [] := ⟨_, _, rfl, rfl⟩
  have hS : va_S (rvB q arr N) s.heap H locs := by rw [hHe, hLe]; exact va_S.rf
  rw [← hHe] at ho
  rw [← hHe] at ha
  rw [← hHe] at hel
  suffices hgo : W p l e (rmL 1 0 0) s m args below meth c H locs 0 0 Q (F0 m 0 ls []) by
    rw [hHe, hLe] at hgo
    exact hgo
  clear hLe
  refine lv_aload_n hx hb dJx4a65c_fastRemove_b59b0_0 rfl (lv_at hl 0 rfl) ?_
  refine lv_dup hx hb dJx4a65c_fastRemove_b59b0_1 rfl ?_
  refine r1_get hC hK.1 ho lay_Jx4a65c rfl 0 (by decide) fl_Jx4a65c_63 (sf_mod hC) (v := .int md) rfl dJx4a65c_fastRemove_b59b0_2 ?_
  refine lv_iconst (v := 1) hx hb dJx4a65c_fastRemove_b59b0_5 (by decide) ?_
  refine lv_iadd hx hb dJx4a65c_fastRemove_b59b0_6 ?_
  refine r2_put hC hK hS (Or.inl rfl) ho lay_Jx4a65c tyJx4a65c tyJx4a65c_ok nmJx4a65c rfl 0 (by decide) fl_Jx4a65c_63 (sf_mod hC) rfl rfl rfl (Nat.le_of_ble_eq_true rfl) dJx4a65c_fastRemove_b59b0_7 (fun H locs ho z_ oq_ hS => ?_)
  have ho : va_at G.1 gCl (q, .inr (10, [.int (md + 1), .ref arr, .int (nI n)])) H := ho
  have ha := ha.kept (oq_ _ hqa)
  have hel : ∀ i, i < n → gAny s H (f i) := fun i hi => (hel i hi).kept (oq_ _ (hel2 i hi))
  clear z_ oq_
  refine lv_aload_n hx hb dJx4a65c_fastRemove_b59b0_10 rfl (lv_at hl 0 rfl) ?_
  refine r1_get hC hK.1 ho lay_Jx4a65c rfl 2 (by decide) fl_Jx4a65c_48 (fun x hx => hx) (v := .int (nI n)) rfl dJx4a65c_fastRemove_b59b0_11 ?_
  refine lv_iconst (v := 1) hx hb dJx4a65c_fastRemove_b59b0_14 (by decide) ?_
  refine lv_isub hx hb dJx4a65c_fastRemove_b59b0_15 ?_
  refine top_i (y := nI (n - 1)) (pk_sub (a := n) (b := 1) (by omega)) ?_
  refine lv_dup hx hb dJx4a65c_fastRemove_b59b0_16 rfl ?_
  refine lv_istore_n (lv' := [(3, .int (nI (n - 1))), (0, .ref q), (1, .ref arr), (2, .int (nI i))]) hx hb dJx4a65c_fastRemove_b59b0_17 rfl hl (by decide) rfl (fun ls hl => ?_)
  refine lv_iload_n hx hb dJx4a65c_fastRemove_b59b0_18 rfl (lv_at hl 3 rfl) ?_
  refine ln_le (tgt := 34) (a := (n - 1)) (b := i) hx hb dJx4a65c_fastRemove_b59b0_19 (by decide) rfl rfl (by omega) (by omega) (fun c_1t => ?_) (fun c_1f => ?_)
  · refine lv_aload_n hx hb dJx4a65c_fastRemove_b59b0_34 rfl (lv_at hl 2 rfl) ?_
    refine lv_aload_n hx hb dJx4a65c_fastRemove_b59b0_35 rfl (lv_at hl 1 rfl) ?_
    refine lv_iload_n hx hb dJx4a65c_fastRemove_b59b0_36 rfl (lv_at hl 0 rfl) ?_
    refine lv_dup_x1 hx hb dJx4a65c_fastRemove_b59b0_37 rfl rfl ?_
    refine r2_put hC hK hS (Or.inl rfl) ho lay_Jx4a65c tyJx4a65c tyJx4a65c_ok nmJx4a65c rfl 2 (by decide) fl_Jx4a65c_48 (fun x hx => hx) rfl rfl rfl (Nat.le_of_ble_eq_true rfl) dJx4a65c_fastRemove_b59b0_38 (fun H locs ho z_ oq_ hS => ?_)
    have ho : va_at G.1 gCl (q, .inr (10, [.int (md + 1), .ref arr, .int (nI (n - 1))])) H := ho
    have ha := ha.kept (oq_ _ hqa)
    clear z_ oq_
    refine lv_null hx hb dJx4a65c_fastRemove_b59b0_41 ?_
    refine r2_qstN hC hK ha hS (Or.inr (Or.inl rfl)) (i := (n - 1)) (by omega) (by omega) dJx4a65c_fastRemove_b59b0_42 (fun H locs ha z_ oq_ hS => ?_)
    have ho := ho.kept (oq_ _ hqa.symm)
    clear z_ oq_
    have ha : va_at G.1 gCl (arr, qE G cap (lf (n - 1) (frm f i))) H := qE_cg ha (fun j _ => rm1_lf c_1t hi j)
    subst hQ
    exact rt_qv () hx hb hr hlk hS trivial (fun t ht _ => ⟨by rw [ht]; exact ho, by rw [ht]; exact ha⟩) (by show 0 ≤ 0; omega) (by show 0 ≤ 0; omega) dJx4a65c_fastRemove_b59b0_43
  · refine lv_aload_n hx hb dJx4a65c_fastRemove_b59b0_22 rfl (lv_at hl 2 rfl) ?_
    refine lv_iload_n hx hb dJx4a65c_fastRemove_b59b0_23 rfl (lv_at hl 3 rfl) ?_
    refine lv_iconst (v := 1) hx hb dJx4a65c_fastRemove_b59b0_24 (by decide) ?_
    refine lv_iadd hx hb dJx4a65c_fastRemove_b59b0_25 ?_
    refine top_i (y := nI (i + 1)) (nI_add i 1) ?_
    refine lv_aload_n hx hb dJx4a65c_fastRemove_b59b0_26 rfl (lv_at hl 2 rfl) ?_
    refine lv_iload_n hx hb dJx4a65c_fastRemove_b59b0_27 rfl (lv_at hl 3 rfl) ?_
    refine lv_iload_n hx hb dJx4a65c_fastRemove_b59b0_28 rfl (lv_at hl 0 rfl) ?_
    refine lv_iload_n hx hb dJx4a65c_fastRemove_b59b0_29 rfl (lv_at hl 3 rfl) ?_
    refine lv_isub hx hb dJx4a65c_fastRemove_b59b0_30 ?_
    refine top_i (y := nI ((n - 1) - i)) (pk_sub (a := (n - 1)) (b := i) (by omega)) ?_
    refine r2_copy1 hC hK (n := cap) (sp := (i + 1)) (dp := i) (k := (n - 1 - i)) ha ho (hqa) hS (Or.inr (Or.inl rfl)) (Or.inl rfl) ml_Jx4a65c_112 hl.1 (by omega) (by omega) (by omega) (fun i_ hi_ y_ hy_ => ?_) ⟨Nat.le_of_ble_eq_true rfl, Nat.le_of_ble_eq_true rfl⟩ (Nat.le_of_ble_eq_true rfl) dJx4a65c_fastRemove_b59b0_31 (fun H1 locs1 ha1_ ho1_ hS1_ => ?_)
    · obtain ⟨h1, h2⟩ := lf_lt (show lf n f (i + 1 + i_) = some y_ from hy_)
      rw [← h2]
      exact hel _ h1
    clear hel
    clear ha ho hS
    have ha := ha1_
    have ho := ho1_
    have hS := hS1_
    refine lv_aload_n hx hb dJx4a65c_fastRemove_b59b0_34 rfl (lv_at hl 2 rfl) ?_
    refine lv_aload_n hx hb dJx4a65c_fastRemove_b59b0_35 rfl (lv_at hl 1 rfl) ?_
    refine lv_iload_n hx hb dJx4a65c_fastRemove_b59b0_36 rfl (lv_at hl 0 rfl) ?_
    refine lv_dup_x1 hx hb dJx4a65c_fastRemove_b59b0_37 rfl rfl ?_
    refine r2_put hC hK hS (Or.inl rfl) ho lay_Jx4a65c tyJx4a65c tyJx4a65c_ok nmJx4a65c rfl 2 (by decide) fl_Jx4a65c_48 (fun x hx => hx) rfl rfl rfl (Nat.le_of_ble_eq_true rfl) dJx4a65c_fastRemove_b59b0_38 (fun H locs ho z_ oq_ hS => ?_)
    have ho : va_at G.1 gCl (q, .inr (10, [.int (md + 1), .ref arr, .int (nI (n - 1))])) H := ho
    have ha := ha.kept (oq_ _ hqa)
    clear z_ oq_
    refine lv_null hx hb dJx4a65c_fastRemove_b59b0_41 ?_
    refine r2_qstN hC hK ha hS (Or.inr (Or.inl rfl)) (i := (n - 1)) (by omega) (by omega) dJx4a65c_fastRemove_b59b0_42 (fun H locs ha z_ oq_ hS => ?_)
    have ho := ho.kept (oq_ _ hqa.symm)
    clear z_ oq_
    have ha : va_at G.1 gCl (arr, qE G cap (lf (n - 1) (frm f i))) H := qE_cg ha (fun j _ => rm2_lf c_1f j)
    subst hQ
    exact rt_qv () hx hb hr hlk hS trivial (fun t ht _ => ⟨by rw [ht]; exact ho, by rw [ht]; exact ha⟩) (by show 0 ≤ 0; omega) (by show 0 ≤ 0; omega) dJx4a65c_fastRemove_b59b0_43
set_option maxHeartbeats 4000000 in
set_option maxRecDepth 100000 in
theorem cJ_Jx4a65c_remove_915e3 (l : Launch) (G : gG) (q arr cap n i : Nat) (f : Nat → Nat) (md : Int32) (N : Nat) (hi : i < n) (hn : n ≤ cap) (hcap : cap ≤ 40000) (hqa : arr ≠ q) (hel2 : ∀ i, i < n → f i ≠ q) : Met l yJx4a65c_remove_915e3 (wB yJx4a65c_remove_915e3 cJx4a65c_remove_915e3 4 (some (.object "java/lang/Object"))) (rmL 2 0 0) (va_Pc [.ref q, .int (nI i)] (fun S => S.heap.size = N ∧ LO G q arr n md S.heap ∧ LA G arr cap n f S.heap ∧ (∀ i, i < n → gAny S S.heap (f i)) ∧ gK G S)) (va_Qr (S := Unit) (fun _ => True) (fun _ z t => z = f i ∧ LO G q arr (n - 1) (md + 1) t.heap ∧ LA G arr cap (n - 1) (frm f i) t.heap) (rvB q arr N)) 0 0 (rvB q arr N) := by
  refine st_N (own := RJx4a65c) (by decide +kernel) rfl (Nat.le_of_ble_eq_true rfl) ?_
  intro p e s m below meth c ls args Q hQ hC hr hlk hnm hl hP
  obtain ⟨hN, ho, ha, hel, hK⟩ := hP
  have hx := hC.1
  have hb := hC.2.1
  have hl : lv_has ls 4 [(0, .ref q), (1, .int (nI i))] := hl
  obtain ⟨H, locs, hHe, hLe⟩ : ∃ (H : Heap) (locs : List Loc), H = s.heap ∧ locs = [] := ⟨_, _, rfl, rfl⟩
  have hS : va_S (rvB q arr N) s.heap H locs := by rw [hHe, hLe]; exact va_S.rf
  rw [← hHe] at ho
  rw [← hHe] at ha
  rw [← hHe] at hel
  suffices hgo : W p l e (rmL 2 0 0) s m args below meth c H locs 0 0 Q (F0 m 0 ls []) by
    rw [hHe, hLe] at hgo
    exact hgo
  clear hLe
  refine lv_iload_n hx hb dJx4a65c_remove_915e3_0 rfl (lv_at hl 1 rfl) ?_
  refine lv_aload_n hx hb dJx4a65c_remove_915e3_1 rfl (lv_at hl 0 rfl) ?_
  refine r1_get hC hK.1 ho lay_Jx4a65c rfl 2 (by decide) fl_Jx4a65c_48 (fun x hx => hx) (v := .int (nI n)) rfl dJx4a65c_remove_915e3_2 ?_
  refine cl_p (run_S hC (cJ_J15_checkIndex_7cf53 l i n hi (by omega)) (As := [.int (nI i), .int (nI n)]) (rest := []) rfl rfl ml_Jx4a65c_118 sm_J15_checkIndex_7cf53 ini_J15 cd_J15_checkIndex_7cf53 na_J15_checkIndex_7cf53 tB_blind (fun _ _ _ => trivial) hl.1 (Nat.le_of_ble_eq_true rfl) ⟨Nat.le_of_ble_eq_true rfl, Nat.le_of_ble_eq_true rfl⟩ ⟨Nat.le_refl _, Nat.le_refl _⟩ rfl dJx4a65c_remove_915e3_5) ?_
  refine lv_pop hx hb dJx4a65c_remove_915e3_8 rfl ?_
  refine lv_aload_n hx hb dJx4a65c_remove_915e3_9 rfl (lv_at hl 0 rfl) ?_
  refine r1_get hC hK.1 ho lay_Jx4a65c rfl 1 (by decide) fl_Jx4a65c_9 (fun x hx => hx) (v := .ref arr) rfl dJx4a65c_remove_915e3_10 ?_
  refine lv_astore_n (lv' := [(2, .ref arr), (0, .ref q), (1, .int (nI i))]) hx hb dJx4a65c_remove_915e3_13 rfl hl (by decide) rfl (fun ls hl => ?_)
  refine lv_aload_n hx hb dJx4a65c_remove_915e3_14 rfl (lv_at hl 0 rfl) ?_
  refine lv_iload_n hx hb dJx4a65c_remove_915e3_15 rfl (lv_at hl 2 rfl) ?_
  refine r2_qld hC hK ha (i := i) (by omega) (by omega) (v := .ref (f i)) (by rw [lf_in hi]; rfl) dJx4a65c_remove_915e3_16 ?_
  refine lv_astore_n (lv' := [(3, .ref (f i)), (2, .ref arr), (0, .ref q), (1, .int (nI i))]) hx hb dJx4a65c_remove_915e3_17 rfl hl (by decide) rfl (fun ls hl => ?_)
  refine lv_aload_n hx hb dJx4a65c_remove_915e3_18 rfl (lv_at hl 2 rfl) ?_
  refine lv_aload_n hx hb dJx4a65c_remove_915e3_19 rfl (lv_at hl 1 rfl) ?_
  refine lv_iload_n hx hb dJx4a65c_remove_915e3_20 rfl (lv_at hl 3 rfl) ?_
  refine va_callv (run_V hC (cJ_Jx4a65c_fastRemove_b59b0 l G q arr cap n i f md N hi hn hcap hqa hel2) (As := [.ref arr, .int (nI i)]) (rest := []) rfl rfl ml_Jx4a65c_144 im_Jx4a65c_fastRemove_b59b0 se_Jx4a65c_fastRemove_b59b0 ini_Jx4a65c cd_Jx4a65c_fastRemove_b59b0 ⟨rfl, na_Jx4a65c_fastRemove_b59b0⟩ (eB_blind (P := fun i => i < n) (g := f)) (ls_recv hK ho rfl) (fun U hU hW => ⟨by rw [hU, hHe]; exact hN, by rw [hU]; exact ho, by rw [hU]; exact ha, fun i hi => by rw [hU]; exact gAny.moved hW.alike (hel i hi), hK.warm hW⟩) hl.1 (Nat.le_of_ble_eq_true rfl) ⟨Nat.le_of_ble_eq_true rfl, Nat.le_of_ble_eq_true rfl⟩ ⟨Nat.le_refl _, Nat.le_refl _⟩ rfl dJx4a65c_remove_915e3_21) hS (fun z_ _ h => h) (fun z_ h => h) (fun _ tt H1 locs1 ht_ al_ _ hB_ hz1_ oq_ hS => ?_)
  rw [ht_] at hB_
  obtain ⟨ho, ha⟩ := hB_
  refine lv_aload_n hx hb dJx4a65c_remove_915e3_24 rfl (lv_at hl 0 rfl) ?_
  subst hQ
  exact rt_qr () hx hb hr (Or.inl ⟨_, rfl⟩) hlk hS trivial (fun t ht _ => ⟨rfl, by rw [ht]; exact ho, by rw [ht]; exact ha⟩) (by show 0 + 0 ≤ 0; omega) (by show 0 + 0 ≤ 0; omega) dJx4a65c_remove_915e3_25
set_option maxHeartbeats 4000000 in
set_option maxRecDepth 100000 in
theorem cJ_Jxa1e45_init_da8c8 (l : Launch) (q : Nat) : Met l yJxa1e45_init_da8c8 (wB yJxa1e45_init_da8c8 cJxa1e45_init_da8c8 1 none) (rmL 1 0 0) (va_Pc [.ref q] (fun _ => True)) (qPv) 0 0 fN := by
  refine st_N (own := RJxa1e45) (by decide +kernel) rfl (Nat.le_of_ble_eq_true rfl) ?_
  intro p e s m below meth c ls args Q hQ hC hr hlk hnm hl hP
  have hx := hC.1
  have hb := hC.2.1
  have hl : lv_has ls 1 [(0, .ref q)] := hl
  refine lv_aload_n hx hb dJxa1e45_init_da8c8_0 rfl (lv_at hl 0 rfl) ?_
  refine r2_oinit hC ml_Jxa1e45_1 hl.1 (Nat.le_of_ble_eq_true rfl) ⟨Nat.le_of_ble_eq_true rfl, Nat.le_of_ble_eq_true rfl⟩ dJxa1e45_init_da8c8_1 ?_
  subst hQ
  exact rt_pv hx hb hr hlk dJxa1e45_init_da8c8_4
set_option maxHeartbeats 4000000 in
set_option maxRecDepth 100000 in
theorem cJ_Jxc12de_init_da8c8 (l : Launch) (G : gG) (q N : Nat) : Met l yJxc12de_init_da8c8 (wB yJxc12de_init_da8c8 cJxc12de_init_da8c8 1 none) (rmL 2 0 0) (va_Pc [.ref q] (fun S => S.heap.size = N ∧ va_at G.1 gCl (q, .inr (10, [.int 0, .null, .int 0])) S.heap ∧ gK G S)) (va_Qv (S := Unit) (fun _ => True) (fun _ t => va_at G.1 gCl (q, .inr (10, [.int 0, .null, .int 0])) t.heap) (rvA q N)) 0 0 (rvA q N) := by
  refine st_N (own := RJxc12de) (by decide +kernel) rfl (Nat.le_of_ble_eq_true rfl) ?_
  intro p e s m below meth c ls args Q hQ hC hr hlk hnm hl hP
  obtain ⟨hN, ho, hK⟩ := hP
  have hx := hC.1
  have hb := hC.2.1
  have hl : lv_has ls 1 [(0, .ref q)] := hl
  obtain ⟨H, locs, hHe, hLe⟩ : ∃ (H : Heap) (locs : List Loc), H = s.heap ∧ locs = [] := ⟨_, _, rfl, rfl⟩
  have hS : va_S (rvA q N) s.heap H locs := by rw [hHe, hLe]; exact va_S.rf
  rw [← hHe] at ho
  suffices hgo : W p l e (rmL 2 0 0) s m args below meth c H locs 0 0 Q (F0 m 0 ls []) by
    rw [hHe, hLe] at hgo
    exact hgo
  clear hLe
  refine lv_aload_n hx hb dJxc12de_init_da8c8_0 rfl (lv_at hl 0 rfl) ?_
  refine cl_pv (run_I hC (cJ_Jxa1e45_init_da8c8 l q) (As := []) (rest := []) rfl rfl ml_Jxc12de_1 im_Jxa1e45_init_da8c8 ini_Jxa1e45 cd_Jxa1e45_init_da8c8 rfl na_Jxa1e45_init_da8c8 tB_blind (fun _ _ _ => trivial) hl.1 (Nat.le_of_ble_eq_true rfl) ⟨Nat.le_of_ble_eq_true rfl, Nat.le_of_ble_eq_true rfl⟩ ⟨Nat.le_refl _, Nat.le_refl _⟩ rfl dJxc12de_init_da8c8_1) ?_
  refine lv_aload_n hx hb dJxc12de_init_da8c8_4 rfl (lv_at hl 0 rfl) ?_
  refine lv_iconst (v := 0) hx hb dJxc12de_init_da8c8_5 (by decide) ?_
  refine r2_put hC hK hS (Or.inl rfl) ho lay_Jx4a65c tyJx4a65c tyJx4a65c_ok nmJx4a65c rfl 0 (by decide) fl_Jxc12de_7 (fun x hx => hx) rfl rfl rfl (Nat.le_of_ble_eq_true rfl) dJxc12de_init_da8c8_6 (fun H locs ho z_ oq_ hS => ?_)
  have ho : va_at G.1 gCl (q, .inr (10, [.int 0, .null, .int 0])) H := ho
  clear z_ oq_
  subst hQ
  exact rt_qv () hx hb hr hlk hS trivial (fun t ht _ => by rw [ht]; exact ho) (by show 0 ≤ 0; omega) (by show 0 ≤ 0; omega) dJxc12de_init_da8c8_9
set_option maxHeartbeats 4000000 in
set_option maxRecDepth 100000 in
theorem cJ_Jx4a65c_init_da8c8 (l : Launch) (G : gG) (d0 mi q N : Nat) : Met l yJx4a65c_init_da8c8 (wB yJx4a65c_init_da8c8 cJx4a65c_init_da8c8 1 none) (rmL 3 0 0) (va_Pc [.ref q] (fun S => S.heap.size = N ∧ va_at G.1 gCl (q, .inr (10, [.int 0, .null, .int 0])) S.heap ∧ gX G d0 mi (rvA q N) S)) (va_Qv (S := Unit) (fun _ => True) (fun _ t => LO G q d0 0 0 t.heap) (rvA q N)) 0 0 (rvA q N) := by
  refine st_N (own := RJx4a65c) (by decide +kernel) rfl (Nat.le_of_ble_eq_true rfl) ?_
  intro p e s m below meth c ls args Q hQ hC hr hlk hnm hl hP
  obtain ⟨hN, ho, hX⟩ := hP
  have hK := hX.1
  have hx := hC.1
  have hb := hC.2.1
  have hl : lv_has ls 1 [(0, .ref q)] := hl
  obtain ⟨H, locs, hHe, hLe⟩ : ∃ (H : Heap) (locs : List Loc), H = s.heap ∧ locs = [] := ⟨_, _, rfl, rfl⟩
  have hS : va_S (rvA q N) s.heap H locs := by rw [hHe, hLe]; exact va_S.rf
  rw [← hHe] at ho
  suffices hgo : W p l e (rmL 3 0 0) s m args below meth c H locs 0 0 Q (F0 m 0 ls []) by
    rw [hHe, hLe] at hgo
    exact hgo
  clear hLe
  refine lv_aload_n hx hb dJx4a65c_init_da8c8_0 rfl (lv_at hl 0 rfl) ?_
  refine va_callv (run_I hC (cJ_Jxc12de_init_da8c8 l G q N) (As := []) (rest := []) rfl rfl ml_Jx4a65c_1 im_Jxc12de_init_da8c8 ini_Jxc12de cd_Jxc12de_init_da8c8 rfl na_Jxc12de_init_da8c8 vB_blind (fun U hU hW => ⟨by rw [hU, hHe]; exact hN, by rw [hU]; exact ho, hK.warm hW⟩) hl.1 (Nat.le_of_ble_eq_true rfl) ⟨Nat.le_of_ble_eq_true rfl, Nat.le_of_ble_eq_true rfl⟩ ⟨Nat.le_refl _, Nat.le_refl _⟩ rfl dJx4a65c_init_da8c8_1) hS (fun z_ _ h => h) (fun z_ h => h) (fun _ tt H1 locs1 ht_ al_ _ hB_ hz1_ oq_ hS => ?_)
  rw [ht_] at hB_
  have ho := hB_
  refine lv_aload_n hx hb dJx4a65c_init_da8c8_4 rfl (lv_at hl 0 rfl) ?_
  refine va_gets hx hb hX.2.2.1 hS hC.2.2.2.1 (hC.2.2.2.2 _ fl_Jx4a65c_39) (fun x hx => hx) dJx4a65c_init_da8c8_5 ?_
  refine r2_put hC hK hS (Or.inl rfl) ho lay_Jx4a65c tyJx4a65c tyJx4a65c_ok nmJx4a65c rfl 1 (by decide) fl_Jx4a65c_9 (fun x hx => hx) rfl rfl rfl (Nat.le_of_ble_eq_true rfl) dJx4a65c_init_da8c8_8 (fun H locs ho z_ oq_ hS => ?_)
  have ho : va_at G.1 gCl (q, .inr (10, [.int 0, .ref d0, .int 0])) H := ho
  clear z_ oq_
  subst hQ
  exact rt_qv () hx hb hr hlk hS trivial (fun t ht _ => by rw [ht]; exact ho) (by show 0 + 0 ≤ 0; omega) (by show 0 + 0 ≤ 0; omega) dJx4a65c_init_da8c8_11
