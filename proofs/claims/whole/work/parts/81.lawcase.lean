/-! THE LAW'S CASES: rows, room, ends -/
def LB (cells slots k : Nat) (M : MS) : Prop := cells ≤ 100 + 3 * k + 2 * tN M + 2 * nP M ∧ slots ≤ 6000 + 80 * k + 20 * tN M + gS (nP M)
theorem LB.room {cells slots k B : Nat} {M : MS} (h : LB cells slots k M) (hI : INV B M) (hk : k ≤ 512) : cells ≤ 601024 ∧ slots ≤ 7293034 := by
  have h1 := hI.f.2.2.2.2.2.2.2.2
  have h2 : nP M ≤ 1500 := Nat.le_trans (Nat.le_add_right _ _) hI.p.2.1
  have h3 := gS_1500 h2
  obtain ⟨a, b⟩ := h
  exact ⟨by omega, by omega⟩
theorem LB.up {cells slots k mc ms : Nat} {M M' : MS} (h : LB cells slots k M) (h1 : M' 1 = M 1) (h34 : M' 34 = M 34) (hm : mc ≤ 3) (hs : ms ≤ 80) : LB (cells + mc) (slots + ms) (k + 1) M' := by
  have e1 : tN M' = tN M := by unfold tN; rw [h1]
  have e2 : nP M' = nP M := by unfold nP; rw [h34]
  obtain ⟨a, b⟩ := h
  refine ⟨?_, ?_⟩
  · rw [e1, e2]; omega
  · rw [e1, e2]; omega
theorem rw_wall (M : MS) (x : Int32) : wallF M x 0 0 = wallT M x ∧ wallF M x 1 = M 1 ∧ wallF M x 34 = M 34 := by
  unfold wallF
  split
  · rename_i h; exact ⟨h.symm, rfl, rfl⟩
  · exact ⟨rfl, rfl, rfl⟩
theorem rw_close (M : MS) (x : Int32) (b : Bool) : closeF M x b 0 0 = cellT x ∧ closeF M x b 1 = M 1 ∧ closeF M x b 34 = M 34 := by
  unfold closeF
  split
  · rename_i h; exact ⟨h.symm, rfl, rfl⟩
  · rename_i h; exact ⟨by
      show (1 : Int32) = cellT x
      unfold cellT at h ⊢
      split
      · rename_i h2; rw [if_pos h2] at h; exact absurd rfl h
      · rfl, rfl, rfl⟩
theorem rw_stn (M : MS) (x : Int32) : stnF M x 0 0 = stnT M x ∧ stnF M x 1 = M 1 ∧ stnF M x 34 = M 34 := by
  unfold stnF
  split
  · rename_i h; exact ⟨h.symm, rfl, rfl⟩
  · exact ⟨rfl, rfl, rfl⟩
theorem rw_tray (M : MS) (x y z : Int32) : trayF M x y z 0 0 = trayT M x y z ∧ trayF M x y z 1 = M 1 ∧ trayF M x y z 34 = M 34 := by
  unfold trayF
  split
  · rename_i h; exact ⟨h.symm, rfl, rfl⟩
  · exact ⟨rfl, rfl, rfl⟩
theorem rw_fill (M : MS) (x y : Int32) : fillF M x y 0 0 = fillT M x y ∧ fillF M x y 1 = M 1 ∧ fillF M x y 34 = M 34 := by
  unfold fillF
  split
  · rename_i h; exact ⟨h.symm, rfl, rfl⟩
  · exact ⟨rfl, rfl, rfl⟩
theorem rw_ord (M : MS) : ordF M 0 0 = ordT M ∧ ordF M 1 = M 1 ∧ ordF M 34 = M 34 := by
  unfold ordF
  split
  · rename_i h; exact ⟨h.symm, rfl, rfl⟩
  · exact ⟨rfl, rfl, rfl⟩
theorem rw_line (M : MS) (x y z : Int32) : lineF M x y z 0 0 = lineT M x y z ∧ lineF M x y z 1 = M 1 ∧ lineF M x y z 34 = M 34 := by
  unfold lineF
  split
  · rename_i h; exact ⟨h.symm, rfl, rfl⟩
  · exact ⟨rfl, rfl, rfl⟩
theorem rw_clm (M : MS) (x y z : Int32) : clmF M x y z 0 0 = clmT M x y z ∧ clmF M x y z 1 = M 1 ∧ clmF M x y z 34 = M 34 := by
  unfold clmF
  split
  · rename_i h; exact ⟨h.symm, rfl, rfl⟩
  · exact ⟨rfl, rfl, rfl⟩
theorem rw_gv (M : MS) (x y : Int32) : gvF M x y 0 0 = gvT M x y ∧ gvF M x y 1 = M 1 ∧ gvF M x y 34 = M 34 := by
  unfold gvF
  split
  · rename_i h
    refine ⟨?_, ?_, ?_⟩
    · rw [gvGo_row (k := 0) (by decide)]; exact h.symm
    · rw [gvGo_row (k := 1) (by decide)]; rfl
    · rw [gvGo_row (k := 34) (by decide)]; rfl
  · exact ⟨rfl, rfl, rfl⟩
theorem rw_rob (M : MS) (x y : Int32) : robF M x y 0 0 = robT M x y ∧ robF M x y 1 = M 1 ∧ robF M x y 34 = M 34 := by
  unfold robF
  split
  · rename_i h; exact ⟨h.symm, rfl, rfl⟩
  · exact ⟨rfl, rfl, rfl⟩
theorem rw_die (M : MS) (x : Int32) : dieF M x 0 0 = dieT M x ∧ dieF M x 1 = M 1 ∧ dieF M x 34 = M 34 := by
  unfold dieF
  split
  · rename_i h; exact ⟨h.symm, rfl, rfl⟩
  · exact ⟨rfl, rfl, rfl⟩
theorem rw_rep (M : MS) (x : Int32) : repF M x 0 0 = repT M x ∧ repF M x 1 = M 1 ∧ repF M x 34 = M 34 := by
  unfold repF
  split
  · rename_i h; exact ⟨h.symm, rfl, rfl⟩
  · exact ⟨rfl, rfl, rfl⟩
theorem it_0 {B : Nat} {M : MS} (hI : INV B M) : ∀ n, tN M + n ≤ 3000 → itP n M 0 = M 0
  | 0, _ => rfl
  | n + 1, h => by
    obtain ⟨a, b⟩ := itP_inv hI n (by omega)
    have h1 := (pas_eq a (by omega)).2 0 rfl
    show pasF (itP n M) 0 = M 0
    rw [h1]
    show itP n M 0 = M 0
    exact it_0 hI n (by omega)
theorem tk_fact {B : Nat} {M : MS} {x : Int32} (hI : INV B M) : INV B (tkF M x) ∧ (tkT M x = 0 → tN (tkF M x) = tN M + ix x) ∧ tN M ≤ tN (tkF M x) ∧ nP M ≤ nP (tkF M x) ∧ tkF M x 0 0 = tkT M x := by
  have htM := hI.f.2.2.2.2.2.2.2.1
  have htM9 := hI.f.2.2.2.2.2.2.2.2
  by_cases ha : ¬ x < 1 ∧ x ≤ 50
  · obtain ⟨n0, hn0, hn1, rfl⟩ : ∃ a, 0 < a ∧ a ≤ 50 ∧ x = nI a := rg_nat (by decide) ha.1 ha.2
    have en : ix (nI n0) = n0 := ix_nI (by omega)
    have hA : ¬ (nI n0 < 1 ∨ ¬ nI n0 ≤ 50) := fun z => z.elim ha.1 (fun w => w ha.2)
    have hle : M 1 0 + nI n0 ≤ 3000 ↔ tN M + n0 ≤ 3000 := by rw [htM, nI_add]; exact nI_leI (a := tN M + n0) (b := 3000) (by omega) (by decide)
    by_cases hc : tN M + n0 ≤ 3000
    · have hT : tkT M (nI n0) = 0 := by unfold tkT; rw [if_neg hA, if_neg (fun w => w (hle.mpr hc))]
      have e9 : tkF M (nI n0) = itP n0 (thr M 0) := by unfold tkF; rw [if_pos hT, en]
      have hI0 : INV B (thr M 0) := INV_thr hI
      obtain ⟨a9, b9⟩ := itP_inv hI0 n0 hc
      have b9 : tN (itP n0 (thr M 0)) = tN M + n0 := b9
      have c9 : nP M ≤ nP (itP n0 (thr M 0)) := itP_P hI0 n0 hc
      rw [e9, en, hT]
      refine ⟨a9, fun _ => b9, by omega, c9, ?_⟩
      rw [it_0 hI0 n0 hc]
      rfl
    · have hT : tkT M (nI n0) = 2 := by unfold tkT; rw [if_neg hA, if_pos (fun w => hc (hle.mp w))]
      have e9 : tkF M (nI n0) = thr M 2 := by unfold tkF; rw [if_neg (by rw [hT]; decide), hT]
      rw [e9, hT]
      exact ⟨INV_thr hI, fun h => absurd h (by decide), Nat.le_refl _, Nat.le_refl _, rfl⟩
  · have hA : x < 1 ∨ ¬ x ≤ 50 := Classical.byContradiction (fun z => ha ⟨fun w => z (Or.inl w), Classical.byContradiction (fun w => z (Or.inr w))⟩)
    have hT : tkT M x = 1 := by unfold tkT; rw [if_pos hA]
    have e9 : tkF M x = thr M 1 := by unfold tkF; rw [if_neg (by rw [hT]; decide), hT]
    rw [e9, hT]
    exact ⟨INV_thr hI, fun h => absurd h (by decide), Nat.le_refl _, Nat.le_refl _, rfl⟩
section LWT
variable {p : Program} {l : Launch} {e : Env} {s : State} {m : MethodId} {args : Array Value} {below : List Frame} {meth : Method} {c : Code} {H : Heap} {locs : List Loc} {cells slots : Nat} {Q : State → Prop} {R : Room}
variable {pc : Nat} {ls : Array Slot} {st0 rest : List Value} {own : String} {G : gG} {d0 mi : Nat} {ma : Nat → Nat} {oa x0 b L : Nat} {xs : Nat → Int32} {M Mc Mr M' : MS} {E : ES} {ja : Nat → Nat → Nat} {v : Int64}
/-- x != 0 -/
theorem lw_b01 (hx : p.tables.exec = Jvm.exec) (hb : c.code = code) {x : Int32} (f0 : decode code pc = .ok (.ifCond .eq 7, 3)) (f3 : decode code (pc + 3) = .ok (.iconst 1, 1)) (f4 : decode code (pc + 4) = .ok (.goto 4, 3)) (f7 : decode code (pc + 7) = .ok (.iconst 0, 1))
    (kk : W p l e R s m args below meth c H locs cells slots Q (F0 m (pc + 8) ls (.int (bI (decide (¬ x = 0))) :: rest))) : W p l e R s m args below meth c H locs cells slots Q (F0 m pc ls (.int x :: rest)) := by
  refine lv_if_eq (tgt := pc + 7) hx hb f0 (by omega) (fun h => ?_) (fun h => ?_)
  · refine lv_iconst (v := 0) hx hb f7 (by decide) ?_
    rw [decide_eq_false (fun z => z h)] at kk
    exact kk
  · refine lv_iconst (v := 1) hx hb f3 (by decide) ?_
    refine lv_goto (tgt := pc + 8) hx hb f4 (by omega) ?_
    rw [decide_eq_true h] at kk
    exact kk
/-- the end of wall's case -/
theorem lw_tail0 (hC : CallFix p m c code 7 s args BIG RL) (hF : LF l s G d0 mi ma oa b L xs) (hW : LW s G d0 ma oa x0 M' M' E ja v H locs) {T : Int32} (hT : M' 0 0 = T) {i : Nat} (hl : lv_has ls 7 [(5, .int T), (0, .ref b), (1, .ref x0), (2, .ref (ma 0)), (3, .ref oa), (4, .int (nI i))]) (hcs : cells ≤ 601024 ∧ slots ≤ 7293034) {o : Int}
    (f0 : decode code pc = .ok (.aload_n 2, 1)) (f1 : decode code (pc + 1) = .ok (.invokevirtual 115, 3)) (f2 : decode code (pc + 4) = .ok (.iload 5, 2)) (f3 : decode code (pc + 6) = .ok (.if_icmp .eq 5, 3)) (f4 : decode code (pc + 11) = .ok (.goto o, 3)) (ho : ((pc + 11 : Nat) : Int) + o = ((1981 : Nat) : Int))
    (kk : W p l e room_1 s m args below meth c H locs cells slots Q (F0 m 1981 ls [])) : W p l e room_1 s m args below meth c H locs cells slots Q (F0 m pc ls []) := by
  have hx := hC.1
  have hb := hC.2.1
  refine lv_aload_n hx hb f0 rfl (lv_at hl 3 rfl) ?_
  refine cl_pi (x := T) (run_V hC (c9_thrown l G ma M' none) (As := []) (rest := []) rfl rfl ml_L_115 im_X9_thrown se_X9_thrown ini_X9 cd_X9_thrown ⟨rfl, na_X9_thrown⟩ mB_blind (LW.rcv hF hW) (LW.prm hF hW) hl.1 (Nat.le_of_ble_eq_true rfl) ⟨Nat.le_of_ble_eq_true rfl, Nat.le_of_ble_eq_true rfl⟩ ⟨by show cells + 0 ≤ 601024; omega, by show slots + 0 ≤ 7293034; omega⟩ rfl f1) hT ?_
  refine lv_iload hx hb f2 (lv_at hl 0 rfl) ?_
  refine lv_icmp_eq (tgt := pc + 11) hx hb f3 (by omega) (fun _ => ?_) (fun h => absurd rfl h)
  exact lv_goto (tgt := 1981) hx hb f4 ho kk
/-- the end of setClosed's case: its answer is a boolean -/
theorem lw_tailz (hC : CallFix p m c code 7 s args BIG RL) (hF : LF l s G d0 mi ma oa b L xs) (hW : LW s G d0 ma oa x0 M' M' E ja v H locs) {T : Int32} {B9 : Bool} (hT : M' 0 0 = T) (hv : T = 0 → v = (bI B9).toInt64) {i : Nat} (hl : lv_has ls 7 [(6, .int (bI B9)), (5, .int T), (0, .ref b), (1, .ref x0), (2, .ref (ma 0)), (3, .ref oa), (4, .int (nI i))]) (hcs : cells ≤ 601024 ∧ slots ≤ 7293034) {o : Int}
    (f0 : decode code pc = .ok (.aload_n 2, 1)) (f1 : decode code (pc + 1) = .ok (.invokevirtual 115, 3)) (f2 : decode code (pc + 4) = .ok (.iload 5, 2)) (f3 : decode code (pc + 6) = .ok (.if_icmp .eq 5, 3)) (f4 : decode code (pc + 11) = .ok (.iload 5, 2)) (f5 : decode code (pc + 13) = .ok (.ifCond .ne 22, 3)) (f6 : decode code (pc + 16) = .ok (.aload_n 3, 1)) (f7 : decode code (pc + 17) = .ok (.iconst 0, 1)) (f8 : decode code (pc + 18) = .ok (.laload, 1)) (f9 : decode code (pc + 19) = .ok (.iload 6, 2)) (f10 : decode code (pc + 21) = .ok (.ifCond .eq 7, 3)) (f11 : decode code (pc + 24) = .ok (.lconst 1, 1)) (f12 : decode code (pc + 25) = .ok (.goto 4, 3)) (f13 : decode code (pc + 28) = .ok (.lconst 0, 1)) (f14 : decode code (pc + 29) = .ok (.lcmp, 1)) (f15 : decode code (pc + 30) = .ok (.ifCond .eq 5, 3)) (f16 : decode code (pc + 35) = .ok (.goto o, 3)) (ho : ((pc + 35 : Nat) : Int) + o = ((1981 : Nat) : Int))
    (kk : W p l e room_1 s m args below meth c H locs cells slots Q (F0 m 1981 ls [])) : W p l e room_1 s m args below meth c H locs cells slots Q (F0 m pc ls []) := by
  have hx := hC.1
  have hb := hC.2.1
  have hK := hF.1.1
  have fin : W p l e room_1 s m args below meth c H locs cells slots Q (F0 m (pc + 35) ls []) := lv_goto (tgt := 1981) hx hb f16 ho kk
  refine lv_aload_n hx hb f0 rfl (lv_at hl 4 rfl) ?_
  refine cl_pi (x := T) (run_V hC (c9_thrown l G ma M' none) (As := []) (rest := []) rfl rfl ml_L_115 im_X9_thrown se_X9_thrown ini_X9 cd_X9_thrown ⟨rfl, na_X9_thrown⟩ mB_blind (LW.rcv hF hW) (LW.prm hF hW) hl.1 (Nat.le_of_ble_eq_true rfl) ⟨Nat.le_of_ble_eq_true rfl, Nat.le_of_ble_eq_true rfl⟩ ⟨by show cells + 0 ≤ 601024; omega, by show slots + 0 ≤ 7293034; omega⟩ rfl f1) hT ?_
  refine lv_iload hx hb f2 (lv_at hl 1 rfl) ?_
  refine lv_icmp_eq (tgt := pc + 11) hx hb f3 (by omega) (fun _ => ?_) (fun h => absurd rfl h)
  refine lv_iload hx hb f4 (lv_at hl 1 rfl) ?_
  refine lv_if_ne (tgt := pc + 35) hx hb f5 (by omega) (fun _ => fin) (fun h0 => ?_)
  refine lv_aload_n hx hb f6 rfl (lv_at hl 5 rfl) ?_
  refine lv_iconst (v := 0) hx hb f7 (by decide) ?_
  refine r2_lld hC hK hW.2.2.2.1 f8 ?_
  refine lv_iload hx hb f9 (lv_at hl 0 rfl) ?_
  have f2n : ∀ w : Int64, w = (bI B9).toInt64 → W p l e room_1 s m args below meth c H locs cells slots Q (F0 m (pc + 29) ls [.long w, .long v]) := fun w hw => by
    refine W.lcmp hx hb f14 ?_
    refine top_i (y := 0) (by rw [hv h0, hw]; simp [lg_cmp]) ?_
    exact lv_if_eq (tgt := pc + 35) hx hb f15 (by omega) (fun _ => fin) (fun h => absurd rfl h)
  refine lb_eq (tgt := pc + 28) hx hb f10 (by omega) (fun hz9 => ?_) (fun hz9 => ?_)
  · refine lv_lconst (v := 0) hx hb f13 (by decide) ?_
    exact f2n 0 (by rw [hz9]; decide)
  · refine lv_lconst (v := 1) hx hb f11 (by decide) ?_
    refine lv_goto (tgt := pc + 29) hx hb f12 (by omega) ?_
    exact f2n 1 (by rw [hz9]; decide)
end LWT
