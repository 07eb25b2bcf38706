/-! THE LAW'S LOOP: what its walk keeps fixed, the world at its head -/
theorem WS.kp {G : gG} {ma : Nat → Nat} {M : MS} {D : mD} {H H1 : Heap} (h : WS G ma M D H) (hk : ∀ q : Nat, q < H.size → mA ma q → H1[q]? = H[q]?) : WS G ma M D H1 := by
  obtain ⟨M0, a1, a2, a3, a4⟩ := h
  exact ⟨M0, a1, a2, a3.kept (hk _ a3.lt mA_0), fun k hk2 => (a4 k hk2).kept (hk _ (a4 k hk2).lt (mA_k hk2))⟩
/-- cells that the class leaves alone: what was there at the law's entry, the reference's, the row of one long -/
def lR (s : State) (ma : Nat → Nat) (oa : Nat) : Nat → Prop := fun q => q < s.heap.size ∨ mA ma q ∨ q = oa
def LF (l : Launch) (s : State) (G : gG) (d0 mi : Nat) (ma : Nat → Nat) (oa b L : Nat) (xs : Nat → Int32) : Prop :=
  gX G d0 mi (fun q => s.heap.size ≤ q) s ∧ gTh (fun q => s.heap.size ≤ q) s ∧ gNc s ∧ va_X b L xs s s.heap ∧ b < s.heap.size ∧ L ≤ 2048 ∧ l.stackTraces = false ∧ mI ma ∧ (∀ q, mA ma q → s.heap.size ≤ q ∧ q ≠ oa) ∧ s.heap.size ≤ oa
/-- the world: the class's rows Mc, the reference's Mr -/
def LW (s : State) (G : gG) (d0 : Nat) (ma : Nat → Nat) (oa x0 : Nat) (Mc Mr : MS) (E : ES) (ja : Nat → Nat → Nat) (v : Int64) (H : Heap) (locs : List Loc) : Prop :=
  WJ G d0 (lR s ma oa) ja Mc E H ∧ ja 8 0 = x0 ∧ WS G ma Mr none H ∧ oC G oa v H ∧ va_S (fun q => s.heap.size ≤ q) s.heap H locs
section LWS
variable {p : Program} {l : Launch} {e : Env} {s : State} {m : MethodId} {args : Array Value} {below : List Frame} {meth : Method} {c : Code} {H : Heap} {locs : List Loc} {cells slots : Nat} {Q : State → Prop} {R : Room}
variable {pc : Nat} {ls : Array Slot} {st0 rest : List Value} {own : String} {G : gG} {d0 mi : Nat} {ma : Nat → Nat} {oa x0 b L : Nat} {xs : Nat → Int32} {M Mc Mr M' : MS} {E : ES} {ja : Nat → Nat → Nat} {v : Int64}
theorem lw_lt (hW : LW s G d0 ma oa x0 Mc Mr E ja v H locs) : ∀ q, lR s ma oa q → q < H.size := fun q h => by
  obtain ⟨hJ, -, ⟨M0, -, -, a3, a4⟩, hO, hS⟩ := hW
  rcases h with h | h | h
  · exact Nat.lt_of_lt_of_le h hS.1
  · rcases h with h | ⟨k, hk, h⟩
    · rw [h]; exact a3.lt
    · rw [h]; exact (a4 k hk).lt
  · rw [h]; exact va_at.lt hO
theorem lw_jA {z : Nat} (hz : jA (lR s ma oa) z) : s.heap.size ≤ z := Nat.le_of_not_lt (fun h => hz (Or.inl h))
theorem LW.prj (hF : LF l s G d0 mi ma oa b L xs) (hW : LW s G d0 ma oa x0 Mc Mr E ja v H locs) : ∀ U : State, U.heap = H → s.WarmedH U.vm → jB G d0 mi (lR s ma oa) ja Mc E U := fun U hU hV => by
  have hlt := lw_lt hW
  exact ⟨by rw [hU]; exact hW.1, hF.1.at hW.2.2.2.2 (fun z hz => lw_jA hz) hU hV, fun q hq => by rw [hU]; exact hlt q hq⟩
theorem LW.pre (hF : LF l s G d0 mi ma oa b L xs) (hW : LW s G d0 ma oa x0 Mc Mr E ja v H locs) : ∀ U : State, U.heap = H → s.WarmedH U.vm → lJ G d0 mi (lR s ma oa) ja Mc E oa v U := fun U hU hV => by
  exact ⟨⟨LW.prj hF hW U hU hV, hF.2.1.at hW.2.2.2.2 (fun z hz => lw_jA hz) hU hV⟩, by rw [hU]; exact hW.2.2.2.1, hF.2.2.1.moved hV.alike⟩
theorem LW.prm (hF : LF l s G d0 mi ma oa b L xs) (hW : LW s G d0 ma oa x0 Mc Mr E ja v H locs) : ∀ U : State, U.heap = H → s.WarmedH U.vm → mB G ma Mr none U := fun U hU hV =>
  ⟨by rw [hU]; exact hW.2.2.1, hF.1.1.warm hV⟩
theorem LW.rcv (hF : LF l s G d0 mi ma oa b L xs) (hW : LW s G d0 ma oa x0 Mc Mr E ja v H locs) : ∃ cell : Cell, H[ma 0]? = some cell ∧ cell.vm.isStatics = false ∧ s.vm.findClass RX9 = some cell.cls := by
  obtain ⟨-, -, ⟨M0, -, -, a3, a4⟩, -, -⟩ := hW
  exact va_at_cell hF.1.1.1 a3 rfl
theorem lw_new (hF : LF l s G d0 mi ma oa b L xs) {q : Nat} (h : lA (lR s ma oa) oa q) : s.heap.size ≤ q := h.elim (fun z => lw_jA z) (fun z => by rw [z]; exact hF.2.2.2.2.2.2.2.2.2)
theorem lw_mA (hF : LF l s G d0 mi ma oa b L xs) {q : Nat} (h : mA ma q) : s.heap.size ≤ q ∧ q ≠ oa := hF.2.2.2.2.2.2.2.2.1 q h
theorem lw_wk (hF : LF l s G d0 mi ma oa b L xs) (hW : WS G ma Mr none H) {H1 : Heap} (hk : ∀ q : Nat, q < H.size → ¬ lA (lR s ma oa) oa q → H1[q]? = H[q]?) : WS G ma Mr none H1 :=
  hW.kp (fun q hq hm => hk q hq (fun z => z.elim (fun y => y (Or.inr (Or.inl hm))) (fun y => (lw_mA hF hm).2 y)))
/-- a wrapper that writes -/
theorem lw_wr {B : Nat} {T Rr : Int32} {mc ms : Nat} {a : Array Value} (hF : LF l s G d0 mi ma oa b L xs) (hW : LW s G d0 ma oa x0 M Mr E ja v H locs) (hr : va_Run p l e R s m args below meth c H locs cells slots mc ms (F0 m pc ls st0) rest (wQ G d0 (lR s ma oa) ja B oa T Rr M' a) (lA (lR s ma oa) oa))
    (kk : ∀ (E1 : ES) (ja1 : Nat → Nat → Nat) (v1 : Int64) (H1 : Heap) (locs1 : List Loc), LW s G d0 ma oa x0 M' Mr E1 ja1 v1 H1 locs1 → (T = 0 → v1 = Rr.toInt64) → CE M' E1 → INV (B + 1) M' → W p l e R s m args below meth c H1 locs1 (cells + mc) (slots + ms) Q (F0 m (pc + 3) ls (.int T :: rest))) : W p l e R s m args below meth c H locs cells slots Q (F0 m pc ls st0) := by
  refine va_calli hr hW.2.2.2.2 (fun q _ h => lw_new hF h) (fun q h => lw_new hF h) (fun r u t H1 locs1 ht _ hp hB _ hk hS => ?_)
  rw [ht] at hB
  obtain ⟨hp1, hp2, hp3, hp4, hp5⟩ := hp
  rw [hp1]
  exact kk u.1.2 u.1.1 u.2 H1 locs1 ⟨hB.1, hp3.trans hW.2.1, lw_wk hF hW.2.2.1 hk, hB.2, hS⟩ hp2 hp4 hp5
/-- a wrapper that asks -/
theorem lw_wa {B : Nat} {T Rr : Int32} {mc ms : Nat} {a : Array Value} (hF : LF l s G d0 mi ma oa b L xs) (hW : LW s G d0 ma oa x0 M Mr E ja v H locs) (hCE : CE M E) (hI : INV B M) (hr : va_Run p l e R s m args below meth c H locs cells slots mc ms (F0 m pc ls st0) rest (va_Qi (S := Int64) (fun r u => r = T ∧ (T = 0 → u = Rr.toInt64)) (fun u t => WJ G d0 (lR s ma oa) ja M E t.heap ∧ oC G oa u t.heap) (lA (lR s ma oa) oa) a) (lA (lR s ma oa) oa))
    (kk : ∀ (E1 : ES) (ja1 : Nat → Nat → Nat) (v1 : Int64) (H1 : Heap) (locs1 : List Loc), LW s G d0 ma oa x0 (thr M T) Mr E1 ja1 v1 H1 locs1 → (T = 0 → v1 = Rr.toInt64) → CE (thr M T) E1 → INV (B + 1) (thr M T) → W p l e R s m args below meth c H1 locs1 (cells + mc) (slots + ms) Q (F0 m (pc + 3) ls (.int T :: rest))) : W p l e R s m args below meth c H locs cells slots Q (F0 m pc ls st0) := by
  refine va_calli hr hW.2.2.2.2 (fun q _ h => lw_new hF h) (fun q h => lw_new hF h) (fun r u t H1 locs1 ht _ hp hB _ hk hS => ?_)
  rw [ht] at hB
  obtain ⟨hp1, hp2⟩ := hp
  rw [hp1]
  exact kk E ja u H1 locs1 ⟨hB.1.gh thr_lk, hW.2.1, lw_wk hF hW.2.2.1 hk, hB.2, hS⟩ hp2 (hCE.set rfl) ((hI.set rfl).Bm (by omega))
/-- wall's wrapper -/
theorem lw_ww {B : Nat} {T : Int32} {mc ms : Nat} {a : Array Value} (hF : LF l s G d0 mi ma oa b L xs) (hW : LW s G d0 ma oa x0 M Mr E ja v H locs) (hr : va_Run p l e R s m args below meth c H locs cells slots mc ms (F0 m pc ls st0) rest (wQw G d0 (lR s ma oa) ja B oa T M' v a) (lA (lR s ma oa) oa))
    (kk : ∀ (E1 : ES) (ja1 : Nat → Nat → Nat) (H1 : Heap) (locs1 : List Loc), LW s G d0 ma oa x0 M' Mr E1 ja1 v H1 locs1 → CE M' E1 → INV (B + 1) M' → W p l e R s m args below meth c H1 locs1 (cells + mc) (slots + ms) Q (F0 m (pc + 3) ls (.int T :: rest))) : W p l e R s m args below meth c H locs cells slots Q (F0 m pc ls st0) := by
  refine va_calli hr hW.2.2.2.2 (fun q _ h => lw_new hF h) (fun q h => lw_new hF h) (fun r u t H1 locs1 ht _ hp hB _ hk hS => ?_)
  rw [ht] at hB
  obtain ⟨hp1, hp3, hp4, hp5⟩ := hp
  rw [hp1]
  exact kk u.2 u.1 H1 locs1 ⟨hB.1, hp3.trans hW.2.1, lw_wk hF hW.2.2.1 hk, hB.2, hS⟩ hp4 hp5
theorem lw_mk (hF : LF l s G d0 mi ma oa b L xs) (hW : LW s G d0 ma oa x0 Mc Mr E ja v H locs) {H1 : Heap} {locs1 : List Loc} (hk : ∀ q : Nat, q < H.size → ¬ mA ma q → H1[q]? = H[q]?) (hB : WS G ma M' none H1) (hS : va_S (fun q => s.heap.size ≤ q) s.heap H1 locs1) : LW s G d0 ma oa x0 Mc M' E ja v H1 locs1 :=
  ⟨hW.1.kept (fun q hq hnR => hk q hq (fun hm => hnR (Or.inr (Or.inl hm)))), hW.2.1, hB, va_at.kept hW.2.2.2.1 (hk _ (va_at.lt hW.2.2.2.1) (fun hm => (lw_mA hF hm).2 rfl)), hS⟩
/-- the reference is asked -/
theorem lw_ri {Rr : Int32} {a : Array Value} (hF : LF l s G d0 mi ma oa b L xs) (hW : LW s G d0 ma oa x0 Mc Mr E ja v H locs) (hr : va_Run p l e R s m args below meth c H locs cells slots 0 0 (F0 m pc ls st0) rest (mQi G ma none (fun r M1 => r = Rr ∧ M1 = M') a) (mA ma))
    (kk : ∀ (H1 : Heap) (locs1 : List Loc), LW s G d0 ma oa x0 Mc M' E ja v H1 locs1 → W p l e R s m args below meth c H1 locs1 cells slots Q (F0 m (pc + 3) ls (.int Rr :: rest))) : W p l e R s m args below meth c H locs cells slots Q (F0 m pc ls st0) := by
  refine va_calli hr hW.2.2.2.2 (fun q _ h => (lw_mA hF h).1) (fun q h => (lw_mA hF h).1) (fun r u t H1 locs1 ht _ hp hB _ hk hS => ?_)
  have hB : WS G ma u none t.heap := hB
  rw [ht, hp.2] at hB
  rw [hp.1]
  exact kk H1 locs1 (lw_mk hF hW hk hB hS)
theorem lw_rv {a : Array Value} (hF : LF l s G d0 mi ma oa b L xs) (hW : LW s G d0 ma oa x0 Mc Mr E ja v H locs) (hr : va_Run p l e R s m args below meth c H locs cells slots 0 0 (F0 m pc ls st0) rest (mQv G ma none (fun M1 => M1 = M') a) (mA ma))
    (kk : ∀ (H1 : Heap) (locs1 : List Loc), LW s G d0 ma oa x0 Mc M' E ja v H1 locs1 → W p l e R s m args below meth c H1 locs1 cells slots Q (F0 m (pc + 3) ls rest)) : W p l e R s m args below meth c H locs cells slots Q (F0 m pc ls st0) := by
  refine va_callv hr hW.2.2.2.2 (fun q _ h => (lw_mA hF h).1) (fun q h => (lw_mA hF h).1) (fun u t H1 locs1 ht _ hp hB _ hk hS => ?_)
  have hB : WS G ma u none t.heap := hB
  have hp : u = M' := hp
  rw [ht, hp] at hB
  exact kk H1 locs1 (lw_mk hF hW hk hB hS)
/-- script[i + k] -/
theorem lw_arg (hC : CallFix p m c code 7 s args BIG own) (hF : LF l s G d0 mi ma oa b L xs) (hS : va_S (fun q => s.heap.size ≤ q) s.heap H locs) {i k : Nat} {kv : Int} (hi : i + k < L) (hl : lv_has ls 7 [(0, .ref b), (4, .int (nI i))]) (hk : Int32.ofInt kv = nI k) (e0 : decode code pc = .ok (.aload_n 0, 1)) (e1 : decode code (pc + 1) = .ok (.iload 4, 2)) (e3 : decode code (pc + 3) = .ok (.iconst kv, 1)) (e4 : decode code (pc + 4) = .ok (.iadd, 1)) (e5 : decode code (pc + 5) = .ok (.iaload, 1))
    (kk : W p l e R s m args below meth c H locs cells slots Q (F0 m (pc + 6) ls (.int (xs (i + k)) :: rest))) : W p l e R s m args below meth c H locs cells slots Q (F0 m pc ls rest) := by
  have hx := hC.1
  have hb := hC.2.1
  have hL := hF.2.2.2.2.2.1
  refine lv_aload_n hx hb e0 rfl (lv_at hl 0 rfl) ?_
  refine lv_iload hx hb e1 (lv_at hl 1 rfl) ?_
  refine lv_iconst (v := nI k) hx hb e3 hk ?_
  refine lv_iadd hx hb e4 ?_
  refine top_i (y := nI (i + k)) (nI_add i k) ?_
  refine va_sld hx hb hF.2.2.2.1 hF.2.2.2.2.1 (Nat.not_le.mpr hF.2.2.2.2.1) hS (vp_in_nI hi (by omega)) e5 ?_
  rw [nI_clamp (by omega)]
  exact kk
/-- the end of a case: what was thrown, what was answered -/
theorem lw_tail (hC : CallFix p m c code 7 s args BIG RL) (hF : LF l s G d0 mi ma oa b L xs) (hW : LW s G d0 ma oa x0 M' M' E ja v H locs) {T Rr : Int32} (hT : M' 0 0 = T) (hv : T = 0 → v = Rr.toInt64) {i : Nat} (hl : lv_has ls 7 [(6, .int Rr), (5, .int T), (0, .ref b), (1, .ref x0), (2, .ref (ma 0)), (3, .ref oa), (4, .int (nI i))]) (hcs : cells ≤ 601024 ∧ slots ≤ 7293034) {o : Int}
    (f0 : decode code pc = .ok (.aload_n 2, 1)) (f1 : decode code (pc + 1) = .ok (.invokevirtual 115, 3)) (f2 : decode code (pc + 4) = .ok (.iload 5, 2)) (f3 : decode code (pc + 6) = .ok (.if_icmp .eq 5, 3)) (f4 : decode code (pc + 11) = .ok (.iload 5, 2)) (f5 : decode code (pc + 13) = .ok (.ifCond .ne 15, 3)) (f6 : decode code (pc + 16) = .ok (.aload_n 3, 1)) (f7 : decode code (pc + 17) = .ok (.iconst 0, 1)) (f8 : decode code (pc + 18) = .ok (.laload, 1)) (f9 : decode code (pc + 19) = .ok (.iload 6, 2)) (f10 : decode code (pc + 21) = .ok (.i2l, 1)) (f11 : decode code (pc + 22) = .ok (.lcmp, 1)) (f12 : decode code (pc + 23) = .ok (.ifCond .eq 5, 3)) (f13 : decode code (pc + 28) = .ok (.goto o, 3)) (ho : ((pc + 28 : Nat) : Int) + o = ((1981 : Nat) : Int))
    (kk : W p l e room_1 s m args below meth c H locs cells slots Q (F0 m 1981 ls [])) : W p l e room_1 s m args below meth c H locs cells slots Q (F0 m pc ls []) := by
  have hx := hC.1
  have hb := hC.2.1
  have hK := hF.1.1
  have fin : W p l e room_1 s m args below meth c H locs cells slots Q (F0 m (pc + 28) ls []) := lv_goto (tgt := 1981) hx hb f13 ho kk
  refine lv_aload_n hx hb f0 rfl (lv_at hl 4 rfl) ?_
  refine cl_pi (x := T) (run_V hC (c9_thrown l G ma M' none) (As := []) (rest := []) rfl rfl ml_L_115 im_X9_thrown se_X9_thrown ini_X9 cd_X9_thrown ⟨rfl, na_X9_thrown⟩ mB_blind (LW.rcv hF hW) (LW.prm hF hW) hl.1 (Nat.le_of_ble_eq_true rfl) ⟨Nat.le_of_ble_eq_true rfl, Nat.le_of_ble_eq_true rfl⟩ ⟨by show cells + 0 ≤ 601024; omega, by show slots + 0 ≤ 7293034; omega⟩ rfl f1) hT ?_
  refine lv_iload hx hb f2 (lv_at hl 1 rfl) ?_
  refine lv_icmp_eq (tgt := pc + 11) hx hb f3 (by omega) (fun _ => ?_) (fun h => absurd rfl h)
  refine lv_iload hx hb f4 (lv_at hl 1 rfl) ?_
  refine lv_if_ne (tgt := pc + 28) hx hb f5 (by omega) (fun _ => fin) (fun h0 => ?_)
  refine lv_aload_n hx hb f6 rfl (lv_at hl 5 rfl) ?_
  refine lv_iconst (v := 0) hx hb f7 (by decide) ?_
  refine r2_lld hC hK hW.2.2.2.1 f8 ?_
  refine lv_iload hx hb f9 (lv_at hl 0 rfl) ?_
  refine lv_i2l hx hb f10 rfl ?_
  refine W.lcmp hx hb f11 ?_
  refine top_i (y := 0) (by rw [hv h0]; simp [lg_cmp]) ?_
  exact lv_if_eq (tgt := pc + 28) hx hb f12 (by omega) (fun _ => fin) (fun h => absurd rfl h)
end LWS
theorem gP_le {n : Nat} (h : n < 1500) : gP n ≤ 2265 := by
  unfold gP addS
  have h1 := capI_le (n + 1)
  rw [capI] at h1
  split
  · omega
  · omega
theorem gS_1500 {n : Nat} (h : n ≤ 1500) : gS n ≤ 3397500 := Nat.le_trans (gS_le h) (fb_sm_bound (f := gP) (c := 2265) (n := 1500) (fun k hk => gP_le hk))
