set_option maxHeartbeats 4000000 in
set_option maxRecDepth 100000 in
/-- YOUR PART: from the entry, for every script of at most 2048 ints, the law comes to its end with true ('hflags': the launch's flags, for a law that throws: no stack traces) -/
theorem whole_start {p : Program} {e : Env} {s : State} {m : MethodId} {below : List Frame} {meth : Method} {c : Code} (l : Launch) (hflags : l.flags = flags0) {b L : Nat} {xs : Nat → Int32} (hL : L ≤ 2048) (C0 : lw_At p s m meth c b L xs) : W p l e room_1 s m #[Value.ref b] below meth c s.heap [] 0 0 (lw_Z below #[Value.ref b] s) (entryFrame m ([Value.ref b] : List Value).toArray 7) := by
  obtain ⟨hx, hb, hr, hml, hown, hts, hX, hbl, hlocks, hgv⟩ := id C0
  have hA : ∀ a : Nat, a < s.heap.size → ¬ s.heap.size ≤ a := fun a h => Nat.not_le.mpr h
  obtain ⟨G, d0, mi, hGX⟩ := law_X (A := fun q => s.heap.size ≤ q) hts hgv hA
  have hTh := law_T (A := fun q => s.heap.size ≤ q) hts hgv hA
  have hN := law_N hgv
  have hl9 : l.stackTraces = false := by
    show (!l.flags.contains Jvm.noTraceFlag) = false
    rw [hflags]
    decide +kernel
  have hC : CallFix p m c code 7 s #[Value.ref b] BIG RL := ⟨hx, hb, hml, hown, fun w hw => hts w (BIG_in hw)⟩
  have hK := hGX.1
  have hS : va_S (fun q : Nat => s.heap.size ≤ q) s.heap s.heap [] := va_S.rf
  have hl := lv_entry ([.ref b]) (n := 7) (Nat.le_of_ble_eq_true rfl)
  rw [lg_entry_eq]
  generalize (lg_sl ([.ref b]) ++ List.replicate (7 - (lg_sl ([.ref b])).length) Slot.unset).toArray = ls at hl ⊢
  have hl : lv_has ls 7 [(0, .ref b)] := hl
  refine r2_new hC hK hS lay_X8 tyX8 tyX8_ok cl_L_8 is_X8 ini_X8 (ci := 8) rfl (fs := [.null, .null, .null, .null, .null, .int 0]) df_X8 (Nat.le_of_ble_eq_true rfl) (Nat.le_of_ble_eq_true rfl) dW_0 (fun x0 H hx0 h8 hz oq hS => ?_)
  refine lv_dup hx hb dW_3 rfl ?_
  have hxA : ∀ z, rvA x0 H.size z → s.heap.size ≤ z := fun z h => by
    have := hS.1
    rcases h with h | h <;> omega
  refine va_callv (run_I hC (cJ_X8_init l G d0 mi x0 H.size) (As := []) (rest := [.ref x0]) rfl rfl ml_L_105 im_X8_init ini_X8 cd_X8_init rfl na_X8_init xB_blind (fun U hU hW => ⟨by rw [hU], by rw [hU]; exact h8, hGX.at hS hxA hU hW⟩) hl.1 (Nat.le_of_ble_eq_true rfl) ⟨Nat.le_of_ble_eq_true rfl, Nat.le_of_ble_eq_true rfl⟩ ⟨Nat.le_of_ble_eq_true rfl, Nat.le_of_ble_eq_true rfl⟩ rfl dW_4) hS (fun z _ h => hxA z h) (fun z h => hxA z h) (fun u t H1 locs ht _ _ hB hz1 oq1 hS => ?_)
  rw [ht] at hB
  obtain ⟨u1, u2, u3, u4, u5, u6, u7, u8, u9⟩ := u
  obtain ⟨k1, k2, k3, k4, k5, k6, k7, k8, k9, a8, a0, a1, b3, b4, b5, b6, b7, b8, b9⟩ := hB
  dsimp only at k1 k2 k3 k4 k5 k6 k7 k8 k9 a8 a0 a1 b3 b4 b5 b6 b7 b8 b9
  have hxs : s.heap.size ≤ x0 := by omega
  have hx1 : x0 < u1 := by have := h8.lt; dsimp only at this; omega
  refine lv_astore_n (lv' := [(1, .ref x0), (0, .ref b)]) hx hb dW_7 rfl hl (by decide) rfl (fun ls hl => ?_)
  refine r2_new hC hK hS lay_X9 tyX9 tyX9_ok cl_L_106 is_X9 ini_X9 (ci := 9) rfl (fs := [.int 0, .int 0, .null, .null, .int 0, .null, .int 0, .null, .null, .null, .int 0, .null, .null, .null, .null, .null, .int 0, .int 0, .null, .null, .null, .null, .null, .null, .null, .null, .null, .null, .int 0, .int 0, .int 0, .int 0, .null, .null, .int 0, .null, .null, .null, .null, .null]) df_X9 (Nat.le_of_ble_eq_true rfl) (Nat.le_of_ble_eq_true rfl) dW_8 (fun q2 H2 hq2 h9 hz2 oq2 hS => ?_)
  have hu9 : u9 < H1.size := b9.lt
  have hs1 : s.heap.size ≤ H1.size := by omega
  refine lv_dup hx hb dW_11 rfl ?_
  have hqA : ∀ z, rvA q2 H2.size z → s.heap.size ≤ z := fun z h => by
    rcases h with h | h <;> omega
  refine va_callv (run_I hC (c9_init l G q2 H2.size) (As := []) (rest := [.ref q2]) rfl rfl ml_L_108 im_X9_init ini_X9 cd_X9_init rfl na_X9_init vB_blind (fun U hU hW => ⟨by rw [hU], by rw [hU]; exact h9, hK.warm hW⟩) hl.1 (Nat.le_of_ble_eq_true rfl) ⟨Nat.le_of_ble_eq_true rfl, Nat.le_of_ble_eq_true rfl⟩ ⟨Nat.le_of_ble_eq_true rfl, Nat.le_of_ble_eq_true rfl⟩ rfl dW_12) hS (fun z _ h => hqA z h) (fun z h => hqA z h) (fun ma t H3 locs ht _ hp hB hz3 oq3 hS => ?_)
  rw [ht] at hB
  obtain ⟨hm0, hmI, hmA⟩ := hp
  refine lv_astore_n (lv' := [(2, .ref (ma 0)), (1, .ref x0), (0, .ref b)]) hx hb dW_15 rfl hl (by decide) (by rw [← hm0]; rfl) (fun ls hl => ?_)
  refine lv_iconst (v := 1) hx hb dW_16 (by decide) ?_
  refine va_newaK (atype := .long) (N := 1) hx hb (hC.2.2.2.2 _ ac_J) rfl dW_17 rfl (by decide) (by decide) (Nat.le_of_ble_eq_true rfl) (Nat.le_of_ble_eq_true rfl) (Nat.le_of_ble_eq_true rfl) rfl (fun H4 cA e4 z4 o4 hAr hNm => ?_)
  have hcA : cA = G.2.2.2.2 := Option.some.inj (hNm.symm.trans (hK.1.2 3 _ rfl).2)
  have hO : oC G H3.size 0 H4 := by
    show H4[H3.size]? = some (vp_cell G.2.2.2.2 (1, .inr (.inl (fun _ => 0))))
    rw [e4, hcA]
    rfl
  have hS : va_S (fun q : Nat => s.heap.size ≤ q) s.heap H4 locs := ⟨by have := hS.1; omega, fun z h1 h2 => by rw [o4 z (Nat.lt_of_lt_of_le h1 hS.1)]; exact hS.2.1 z h1 h2, hS.2.2⟩
  refine lv_astore_n (lv' := [(3, .ref H3.size), (2, .ref (ma 0)), (1, .ref x0), (0, .ref b)]) hx hb dW_19 rfl hl (by decide) rfl (fun ls hl => ?_)
  refine lv_iconst (v := 0) hx hb dW_20 (by decide) ?_
  refine lv_istore (lv' := [(4, .int (nI (4 * 0))), (3, .ref H3.size), (2, .ref (ma 0)), (1, .ref x0), (0, .ref b)]) hx hb dW_21 hl (by decide) rfl (fun ls hl => ?_)
  have hmlt : ∀ z, mA ma z → z < H3.size := fun z hz => mA_lt hB hz
  have hmge : ∀ z, mA ma z → q2 ≤ z := fun z hz => by
    have := h9.lt
    dsimp only at this
    rcases hmA z hz with h | h <;> omega
  have hF : LF l s G d0 mi ma H3.size b L xs := ⟨hGX, hTh, hN, hX, hbl, hL, hl9, hmI, fun q hq => ⟨by have := hmge q hq; omega, by have := hmlt q hq; omega⟩, by omega⟩
  have kp : ∀ z : Nat, z < H1.size → H4[z]? = H1[z]? := fun z hz9 => by
    rw [o4 z (by omega), oq3 z (by omega) (fun h => by rcases h with h | h <;> omega), oq2 z hz9]
  have hWM : WM G ma M00 H4 := ⟨hB.1.kept (o4 _ hB.1.lt), fun k hk => (hB.2 k hk).kept (o4 _ (hB.2 k hk).lt)⟩
  have hWJ : WJ G d0 (lR s ma H3.size) (ja00 x0 u1 u2 u3 u4 u5 u6 u7 u8 u9) M00 E00 H4 := WJ00 hx1 k2 k3 k4 k5 k6 k7 k8 k9 (fun z h1 h2 h3 => by
    rcases h3 with h3 | h3 | h3
    · omega
    · have := hmge z h3; omega
    · omega) (a8.kept (kp _ a8.lt)) (a0.kept (kp _ a0.lt)) (a1.kept (kp _ a1.lt)) (b3.kept (kp _ b3.lt)) (b4.kept (kp _ b4.lt)) (b5.kept (kp _ b5.lt)) (b6.kept (kp _ b6.lt)) (b7.kept (kp _ b7.lt)) (b8.kept (kp _ b8.lt)) (b9.kept (kp _ b9.lt))
  exact law_loop C0 hC hF (L + 1) 0 M00 E00 _ 0 H4 locs _ _ ls (by omega) (by omega) ⟨hWJ, rfl, WS.of hWM, hO, hS⟩ INV00 CE00 (by unfold LB; refine ⟨by omega, by omega⟩) (lv_sub hl [4, 3, 2, 1, 0] rfl)
set_option maxHeartbeats 4000000 in
theorem lw_walk (l : Launch) (hflags : l.flags = flags0) (b : Addr) (xs : List Int32) : MetFree l x (headSpec (Jvm.Cond.code x code maxLocals ret :: tables_1) room_1) (lw_P b xs) (fun _ _ _ _ _ => True) lw_Q := by
  refine MetFree.of_bodyS (code := code) (maxLocals := maxLocals) (ret := ret) (by decide) ?_ ?_
  · intro args s m h hn
    obtain ⟨meth, c, h1, h2, h3, h4, h5, h6, -, -⟩ := Cond.code_spec hn (atoms_spec (ws := Jvm.Cond.code x code maxLocals ret :: tables_1) h _ List.mem_cons_self)
    exact ⟨meth, c, h1, h2, h3, h4, h5, h6⟩
  · intro p e s m args below meth c s₁ B hml0 hP _
    obtain ⟨rfl, hx, hbd, hgv⟩ := hP
    obtain ⟨scr, harrAt, hlist, hof, hsmall⟩ := hx
    obtain ⟨hcb, hkn, -, -⟩ := State.arrayAt?_spec harrAt
    have hown : s.vm.findClass R_law = some m.cls := findClass_of_methodNamed B.named
    have hts0 : ∀ c ∈ (Jvm.Cond.code x code maxLocals ret :: tables_1), c.before #[Value.ref b] s = true := atoms_spec (ws := Jvm.Cond.code x code maxLocals ret :: tables_1) B.pre
    have hts : ∀ w ∈ lw_tbl, w.before #[Value.ref b] s = true := k2_hts_sels lw_privs (fun w hw => hts0 w (List.mem_cons_of_mem _ hw)) lw_privs_ok
    have hml : c.maxLocals = 7 := B.maxLocals_eq (hts0 _ List.mem_cons_self)
    have X₀ : Stand p l e room_1 s m #[Value.ref b] below meth c s₁ [] 0 0 := Stand.of_body B
    have hh0 : s₁.heap = s.heap := by rw [B.state]; rfl
    have hsz : scr.slots.size = xs.length := by rw [← Array.length_toList, hlist, List.length_map]
    have hval : ∀ j : Nat, j < xs.length → scr.slots[j]? = some (.int (xs.getD j 0)) := fun j hj => by
      rw [← Array.getElem?_toList, hlist]
      simp [hj]
    have hbl : b < s.heap.size := (Array.getElem?_eq_some_iff.mp hcb).1
    have hX : va_X b xs.length (fun j => xs.getD j 0) s s.heap := ⟨scr, hcb, hof, hkn, hsz, hval⟩
    have K : W p l e room_1 s m #[Value.ref b] below meth c s₁.heap [] 0 0 (lw_Z below #[Value.ref b] s) (entryFrame m ([Value.ref b] : List Value).toArray 7) := by
      rw [hh0]
      exact whole_start l hflags hbd ⟨B.exec, B.bytes, B.returns, hml, hown, hts, hX, hbl, B.notSynchronized, hgv⟩
    obtain ⟨t, a1, o, b1, b2, b3⟩ := K s₁ rfl X₀
    exact ⟨t, o, a1, b1, b2, b3⟩
theorem lw_pre_spec {args : Array Value} {s : State} (h : (Jvm.Cond.and given_1 narrow_1).before args s = true) (hr : rest_1_c.before args s = true) : ∃ (b : Addr) (xs : List Int32), lw_P b xs args s := by
  have hs := flat_of_before _ h
  have hq := flat_of_before _ hr
  have hc : (Cond.count 1).before args s = true := hs _ (by decide +kernel)
  have harr : (Cond.arrayOf (.arg 0) .int).before args s = true := hs _ (by decide +kernel)
  have hle : (Cond.le (.length (.arg 0)) (.int 2048)).before args s = true := hs _ (by decide +kernel)
  have hlen : (Cond.isInt (.length (.arg 0))).before args s = true := hq _ (by decide +kernel)
  have hall : (Cond.all (.arg 0) (.isInt (.elem (.arg 0) (.index 0)))).before args s = true := hq _ (by decide +kernel)
  obtain ⟨b, xs, hb, hx⟩ := State.ints_of_pre rfl harr hlen hall
  have hsm : xs.length < 2 ^ 31 := hx.choose_spec.2.2.2
  have hev : (Term.length (.arg 0)).eval args s none [] s = some (.int xs.length.toInt32) := hx.length_eval hb
  have hv := Cond.le_ints hev (show (Term.int 2048).eval args s none [] s = some (.int 2048) from rfl)
  have hd : xs.length.toInt32 ≤ 2048 := by
    simpa [Cond.before, Cond.holds, hv] using hle
  have hN : xs.length ≤ 2048 := (Int32.ofNat_le_ofNat hsm (by decide)).mp (show Int32.ofNat xs.length ≤ Int32.ofNat 2048 from hd)
  exact ⟨b, xs, Cond.one_arg hc (show args[0]? = some (.ref b) from hb), hx, hN, h⟩
theorem lw_comes (l : Launch) (hflags : l.flags = flags0) : Comes l x (Jvm.Cond.code x code maxLocals ret :: tables_1) room_1 (fun tb e args s => Calls_1 tb e args s ∧ rest_1 tb e args s ∧ Pre_1 tb e args s)
    (fun _ _ args s o t => lw_Q args s o t) := by
  intro p e ha hc hk s m args below hf hfit hheap happ hpre
  obtain ⟨b, xs, hP⟩ := lw_pre_spec hpre.2.2 hpre.2.1
  obtain ⟨k, o, h1, h2, h3, hQ⟩ := lw_walk l hflags b xs p e ha hc hk s m args below hf ((Spec.applies_iff_loose hf).mp happ).1 hP trivial
  exact ⟨k, o, h1, h2, h3, hQ⟩
theorem lw_frame {s t : State} {o : Outcome} {args : Array Value} (h : Framed s o t [] 601024 7293034) :
    Framed s o t (fieldLocs frame_1_writes args s ++ arrayLocs frame_1_arrays args s ++ staticLocs frame_1_statics s) 601024 7293034 := h
theorem lw_limb (L : Cond) (hL : ∀ (args : Array Value) (s t : State), L.after args s (.returned (some (.int 1))) t = true) :
    ArmFor flags0 classFile x code maxLocals ret World_1 tables_1 room_1 Calls_1 rest_1 Pre_1
      (fun tb e a s o t => postC L tb e a s o t ∧ Framed s o t (fieldLocs frame_1_writes a s ++ arrayLocs frame_1_arrays a s ++ staticLocs frame_1_statics s) 601024 7293034) := by
  intro l hflags _ _ p e ha hc hk s m args below hf hfit hheap happ hpre
  obtain ⟨k, o, h1, h2, h3, rfl, hF⟩ := lw_comes l hflags p e ha hc hk s m args below hf hfit hheap happ hpre
  exact ⟨k, _, h1, h2, h3, hL args s _, lw_frame hF⟩
theorem i_vc : Claimed_1_1 ∧ Claimed_1_2 := ⟨lw_limb limb_1_1 (fun args s t => by simp [limb_1_1, Cond.after, Cond.holds, Cond.value]), lw_limb limb_1_2 (fun args s t => Cond.after_iff.mpr (by
  first | (rw [show limb_1_2 = Cond.eq .result (.int 1) from rfl, Cond.eq_ints (x := 1) (y := 1) rfl rfl]; simp; done) | (simp [limb_1_2, Cond.value, Term.eval]; done)))⟩
