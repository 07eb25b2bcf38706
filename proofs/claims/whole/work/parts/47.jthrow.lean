/-! EXCEPTIONS OF THE CLASS: what is needed beside the world; a method that throws, a call of it, its start -/
def xIAE : String := "java/lang/IllegalArgumentException"
def xISE : String := "java/lang/IllegalStateException"
def xIOE : String := "java/lang/IndexOutOfBoundsException"
def xNm : List String := ["java/lang/RuntimeException", "java/lang/Exception"]
def xStr : List (Nat × String) := [(289, "an argument is out of range"), (62, "the cell is in use"), (85, "no station can be added there"), (106, "no tray can be added there"), (294, "there is no such number"), (124, "the tray is carried"), (129, "no more orders"), (143, "the order has all its lines"), (162, "the line is claimed"), (167, "the line is not claimed"), (194, "no robot can be added there"), (204, "the robot is dead"), (220, "the robot is not dead"), (228, "the time would be too late")]
def xDcl : List Cond := [.declares ⟨"java/lang/RuntimeException", "<init>", "(Ljava/lang/String;)V"⟩, .declares ⟨"java/lang/Exception", "<init>", "(Ljava/lang/String;)V"⟩, .declares ⟨"java/lang/Throwable", "<init>", "(Ljava/lang/String;)V"⟩]
def xCas : List (String × String) := [(xIAE, xIAE), (xISE, xISE), (xIOE, xIOE)]
def gTh (A : Nat → Prop) (S : State) : Prop := (∀ w ∈ xDcl, va_Nw w S) ∧ (∀ q ∈ xCas, va_Nw (.castable q.1 q.2) S) ∧ (∀ q ∈ xStr, ∃ a, vk_R RX8 q.1 q.2 a S) ∧ vx_Zq Bundle.tN "UNASSIGNED_STACK" Bundle.steD A S S.heap ∧ vx_Zq Bundle.tN "SUPPRESSED_SENTINEL" Bundle.listD A S S.heap
theorem gTh.warm0 {A : Nat → Prop} {s U : State} (h : gTh A s) (hW : s.WarmedH U.vm) : (∀ w ∈ xDcl, va_Nw w U) ∧ (∀ q ∈ xCas, va_Nw (.castable q.1 q.2) U) ∧ (∀ q ∈ xStr, ∃ a, vk_R RX8 q.1 q.2 a U) := by
  refine ⟨fun w hw => ?_, fun q hq => (h.2.1 q hq).warmC hW, fun q hq => ?_⟩
  · have h1 := h.1 w hw
    simp only [xDcl, List.mem_cons, List.not_mem_nil, or_false] at hw
    rcases hw with rfl | rfl | rfl
    · exact va_Nw.warmD hW h1
    · exact va_Nw.warmD hW h1
    · exact va_Nw.warmD hW h1
  · obtain ⟨a, ha⟩ := h.2.2.1 q hq
    exact ⟨a, vk_R.warm hW ha⟩
theorem gTh.at {A B : Nat → Prop} {s U : State} {H : Heap} {locs : List Loc} (h : gTh A s) (hS : va_S A s.heap H locs) (hAB : ∀ z, B z → A z) (hU : U.heap = H) (hW : s.WarmedH U.vm) : gTh B U := by
  have hq : ∀ a : Nat, a < s.heap.size → ¬ A a → H[a]? = s.heap[a]? := fun a h1 h2 => hS.2.1 a h1 h2
  obtain ⟨a, b, c⟩ := h.warm0 hW
  refine ⟨a, b, c, ?_, ?_⟩
  · rw [hU]; exact vx_Zq.moved hW.alike (vx_Zq.narrow (vx_Zq.kept h.2.2.2.1 hq) hAB)
  · rw [hU]; exact vx_Zq.moved hW.alike (vx_Zq.narrow (vx_Zq.kept h.2.2.2.2 hq) hAB)
theorem gTh.blind {A : Nat → Prop} {U : State} {g : JFrame} {mk : MethodId} {a : Array Value} (h : gTh A U) : gTh A (U.calling g mk a) := by
  refine ⟨fun w hw => ?_, fun q hq => va_Nw.same rfl rfl (h.2.1 q hq), fun q hq => ?_, vx_Zq.moved (u := U) (U := U.calling g mk a) (Vm.Alike.refl U.vm) h.2.2.2.1, vx_Zq.moved (u := U) (U := U.calling g mk a) (Vm.Alike.refl U.vm) h.2.2.2.2⟩
  · have h1 := h.1 w hw
    simp only [xDcl, List.mem_cons, List.not_mem_nil, or_false] at hw
    rcases hw with rfl | rfl | rfl
    · exact va_Nw.same rfl rfl h1
    · exact va_Nw.same rfl rfl h1
    · exact va_Nw.same rfl rfl h1
  · obtain ⟨x, hx⟩ := h.2.2.1 q hq
    exact ⟨x, vk_R.same rfl hx⟩
def jT (G : gG) (d0 mi : Nat) (Rf : Nat → Prop) (ja : Nat → Nat → Nat) (M : MS) (E : ES) : State → Prop := fun U => jB G d0 mi Rf ja M E U ∧ gTh (jA Rf) U
theorem jT_blind {G : gG} {d0 mi : Nat} {Rf : Nat → Prop} {ja : Nat → Nat → Nat} {M : MS} {E : ES} {av : List Value} : FrameBlind (va_Pc av (jT G d0 mi Rf ja M E)) := fun _ _ _ _ h => ⟨h.1, ⟨h.2.1.1, h.2.1.2.1.blind, h.2.1.2.2⟩, h.2.2.blind⟩
theorem jT_at {G : gG} {d0 mi : Nat} {Rf : Nat → Prop} {ja : Nat → Nat → Nat} {M : MS} {E : ES} {s : State} {H : Heap} {locs : List Loc} (hX : gX G d0 mi (jA Rf) s) (hT : gTh (jA Rf) s) (hRf : ∀ q, Rf q → q < s.heap.size) (hW : WJ G d0 Rf ja M E H) (hS : va_S (jA Rf) s.heap H locs) : ∀ U : State, U.heap = H → s.WarmedH U.vm → jT G d0 mi Rf ja M E U := fun U hU hV =>
  ⟨jB_at hX hRf hW hS U hU hV, hT.at hS (fun _ h => h) hU hV⟩
theorem ix_IAE : vx_atS RX8 291 xIAE xNm = ([74, 272, 281, 285, 288, 290, 273, 274, 105, 106, 275, 280, 286, 306, 262, 307, 264, 308, 266, 276, 278, 268, 302, 303, 305, 268, 293, 294, 295, 296, 254, 296, 297, 298, 299, 256, 299, 300, 301, 302, 258, 292, 251, 252, 259, 260, 261, 263, 265, 267, 271, 270, 269] : List Nat).filterMap (fun i => lw_tbl[i]?) := by decide +kernel
theorem ng_IAE : (vx_atS RX8 291 xIAE xNm).filter (fun w => !goodWord w) = xDcl ++ [.castable xIAE xIAE] := by decide +kernel
theorem ot_IAE : (Cond.classLink RX8 287 xIAE :: Cond.initialized xIAE :: vx_atS RX8 291 xIAE xNm).all vx_ot = true := by decide +kernel
theorem ck_IAE : Cond.classLink RX8 287 xIAE ∈ BIG := bwi 250 (by decide +kernel) (by decide)
theorem ini_IAE : Cond.initialized xIAE ∈ BIG := bwi 77 (by decide +kernel) (by decide)
theorem at_IAE {args : Array Value} {s : State} {A : Nat → Prop} (hB : ∀ w ∈ BIG, w.before args s = true) (hT : gTh A s) : ∀ w ∈ vx_atS RX8 291 xIAE xNm, w.before args s = true := by
  refine vx_hat (B := xDcl ++ [.castable xIAE xIAE]) (fun w hw => ?_) (fun w hw => by rw [ng_IAE] at hw; exact hw) (fun w hw => ?_)
  · obtain ⟨h1, h2⟩ := List.mem_filter.mp hw
    rw [ix_IAE] at h1
    obtain ⟨i, -, hi⟩ := List.mem_filterMap.mp h1
    exact hB w (List.mem_filter.mpr ⟨by first | exact List.mem_of_getElem? hi | exact List.getElem?_mem hi, h2⟩)
  · rcases List.mem_append.mp hw with h | h
    · have h1 := hT.1 w h
      simp only [xDcl, List.mem_cons, List.not_mem_nil, or_false] at h
      rcases h with rfl | rfl | rfl
      · exact va_Nw.use rfl h1
      · exact va_Nw.use rfl h1
      · exact va_Nw.use rfl h1
    · simp only [List.mem_cons, List.not_mem_nil, or_false] at h
      subst h
      exact va_Nw.use rfl (hT.2.1 (xIAE, xIAE) (by decide))
theorem ix_ISE : vx_atS RX8 64 xISE xNm = ([74, 272, 281, 285, 288, 290, 273, 274, 105, 106, 275, 280, 286, 306, 262, 307, 264, 308, 266, 276, 278, 268, 302, 303, 305, 268, 367, 368, 369, 296, 254, 296, 297, 298, 299, 256, 299, 300, 301, 302, 258, 366, 357, 358, 359, 283, 360, 361, 362, 363, 271, 270, 364] : List Nat).filterMap (fun i => lw_tbl[i]?) := by decide +kernel
theorem ng_ISE : (vx_atS RX8 64 xISE xNm).filter (fun w => !goodWord w) = xDcl ++ [.castable xISE xISE] := by decide +kernel
theorem ot_ISE : (Cond.classLink RX8 60 xISE :: Cond.initialized xISE :: vx_atS RX8 64 xISE xNm).all vx_ot = true := by decide +kernel
theorem ck_ISE : Cond.classLink RX8 60 xISE ∈ BIG := bwi 356 (by decide +kernel) (by decide)
theorem ini_ISE : Cond.initialized xISE ∈ BIG := bwi 80 (by decide +kernel) (by decide)
theorem at_ISE {args : Array Value} {s : State} {A : Nat → Prop} (hB : ∀ w ∈ BIG, w.before args s = true) (hT : gTh A s) : ∀ w ∈ vx_atS RX8 64 xISE xNm, w.before args s = true := by
  refine vx_hat (B := xDcl ++ [.castable xISE xISE]) (fun w hw => ?_) (fun w hw => by rw [ng_ISE] at hw; exact hw) (fun w hw => ?_)
  · obtain ⟨h1, h2⟩ := List.mem_filter.mp hw
    rw [ix_ISE] at h1
    obtain ⟨i, -, hi⟩ := List.mem_filterMap.mp h1
    exact hB w (List.mem_filter.mpr ⟨by first | exact List.mem_of_getElem? hi | exact List.getElem?_mem hi, h2⟩)
  · rcases List.mem_append.mp hw with h | h
    · have h1 := hT.1 w h
      simp only [xDcl, List.mem_cons, List.not_mem_nil, or_false] at h
      rcases h with rfl | rfl | rfl
      · exact va_Nw.use rfl h1
      · exact va_Nw.use rfl h1
      · exact va_Nw.use rfl h1
    · simp only [List.mem_cons, List.not_mem_nil, or_false] at h
      subst h
      exact va_Nw.use rfl (hT.2.1 (xISE, xISE) (by decide))
theorem ix_IOE : vx_atS RX8 296 xIOE xNm = ([74, 272, 281, 285, 288, 290, 273, 274, 105, 106, 275, 280, 286, 306, 262, 307, 264, 308, 266, 276, 278, 268, 302, 303, 305, 268, 572, 573, 574, 296, 254, 296, 297, 298, 299, 256, 299, 300, 301, 302, 258, 571, 562, 563, 564, 284, 565, 566, 567, 568, 271, 270, 569] : List Nat).filterMap (fun i => lw_tbl[i]?) := by decide +kernel
theorem ng_IOE : (vx_atS RX8 296 xIOE xNm).filter (fun w => !goodWord w) = xDcl ++ [.castable xIOE xIOE] := by decide +kernel
theorem ot_IOE : (Cond.classLink RX8 292 xIOE :: Cond.initialized xIOE :: vx_atS RX8 296 xIOE xNm).all vx_ot = true := by decide +kernel
theorem ck_IOE : Cond.classLink RX8 292 xIOE ∈ BIG := bwi 561 (by decide +kernel) (by decide)
theorem ini_IOE : Cond.initialized xIOE ∈ BIG := bwi 87 (by decide +kernel) (by decide)
theorem at_IOE {args : Array Value} {s : State} {A : Nat → Prop} (hB : ∀ w ∈ BIG, w.before args s = true) (hT : gTh A s) : ∀ w ∈ vx_atS RX8 296 xIOE xNm, w.before args s = true := by
  refine vx_hat (B := xDcl ++ [.castable xIOE xIOE]) (fun w hw => ?_) (fun w hw => by rw [ng_IOE] at hw; exact hw) (fun w hw => ?_)
  · obtain ⟨h1, h2⟩ := List.mem_filter.mp hw
    rw [ix_IOE] at h1
    obtain ⟨i, -, hi⟩ := List.mem_filterMap.mp h1
    exact hB w (List.mem_filter.mpr ⟨by first | exact List.mem_of_getElem? hi | exact List.getElem?_mem hi, h2⟩)
  · rcases List.mem_append.mp hw with h | h
    · have h1 := hT.1 w h
      simp only [xDcl, List.mem_cons, List.not_mem_nil, or_false] at h
      rcases h with rfl | rfl | rfl
      · exact va_Nw.use rfl h1
      · exact va_Nw.use rfl h1
      · exact va_Nw.use rfl h1
    · simp only [List.mem_cons, List.not_mem_nil, or_false] at h
      subst h
      exact va_Nw.use rfl (hT.2.1 (xIOE, xIOE) (by decide))
/-- a class, and nothing but new cells -/
def xN (cls : String) : String → State → State → Prop := vx_X (S := Unit) (fun _ => True) (fun E _ _ => E = cls) fN
def xQ : Array Value → State → Outcome → State → Prop := fun _ _ _ _ => False
/-- a throwing method's start -/
theorem st_X {l : Launch} {y : MethodName} {cc : ByteArray} {maxL : Nat} {ret : Option FieldType} {rm : Room} {av : List Value} {B : State → Prop} {Qc : Array Value → State → Outcome → State → Prop} {XC : String → State → State → Prop} {mc ms : Nat} {free : Addr → Prop} {own : String} (hy : plainName y.cls = true) (hyo : y.cls = own) (hn : (lg_sl av).length ≤ maxL)
    (body : ∀ (p : Program) (e : Env) (s : State) (m : MethodId) (below : List Frame) (meth : Method) (c : Code) (ls : Array Slot) (args : Array Value) (Q : State → Prop), vx_MQ below Qc XC args s mc ms free = Q → CallFix p m c cc maxL s args BIG own → meth.sig.returnType = ret → meth.locks = false → (∀ x ∈ c.exceptionTable.toList, False) → lv_has ls maxL (lv_args 0 av) → B s →
      W p l e rm s m args below meth c s.heap [] 0 0 Q (F0 m 0 ls [])) : vx_Met l y (wB y cc maxL ret) rm (va_Pc av B) Qc XC mc ms free := by
  refine vx_ofW (cc := cc) (maxL := maxL) (ret := ret) hy rfl ?_
  intro p e s m args below meth c s₁ B0 hml hex hv
  obtain ⟨rfl, hB⟩ := hv
  have hts := atoms_spec (ws := wB y cc maxL ret) B0.pre
  have hown : s.vm.findClass own = some m.cls := by rw [← hyo]; exact findClass_of_methodNamed B0.named
  have h := body p e s m below meth c _ _ _ rfl ⟨B0.exec, B0.bytes, hml, hown, fun w hw => hts w (List.mem_cons_of_mem _ hw)⟩ B0.returns B0.notSynchronized hex (lv_entry av hn) hB
  rw [lg_entry_eq]
  exact h
section JX
variable {p : Program} {l : Launch} {e : Env} {R : Room} {s : State} {m : MethodId} {args : Array Value} {below : List Frame} {meth : Method} {c : Code} {H : Heap} {locs : List Loc} {Q : State → Prop} {cc : ByteArray} {nL : Nat}
variable {pc : Nat} {ls : Array Slot} {rest st0 : List Value} {a : Array Value} {A : Nat → Prop} {ret : Option FieldType} {own : String}
/-- a call of a method that throws -/
theorem jx_call {cls : String} {Qc : Array Value → State → Outcome → State → Prop} (hr : vx_Run p l e R s m args below meth c s.heap [] 0 0 1 6 (F0 m pc ls st0) rest (xQ a) (xN cls) A) (hQ : vx_MQ below Qc (xN cls) args s 1 6 A = Q) (hex : ∀ x ∈ c.exceptionTable.toList, False) (hlk : meth.locks = false) : W p l e R s m args below meth c s.heap [] 0 0 Q (F0 m pc ls st0) := by
  subst hQ
  intro T hT X
  rcases hr T hT X with ⟨v, st₀, t, T', L, h0, X', hL, e1, e2, hF, st⟩ | ⟨q, st₀, t, T', L, E, ce, h0, X', hL, e1, e2, ⟨u, hp, hb, hF⟩, hce, hcv, hcl, st⟩
  · exact hF.elim
  · subst hb
    obtain ⟨hz, hk⟩ := hF
    rw [h0] at hz hk
    rw [List.nil_append] at X'
    obtain ⟨t2, a1, b1⟩ := vx_out (rest := rest) (pc := pc) (ls := ls) (Qc := Qc) (XC := xN E) (free := A) (mc := 1) (ms := 6) (H := T'.heap) (fun x hx => (hex x hx).elim) hlk (by rw [e1]; exact hce) hcv hcl (fun t9 h9 _ => ⟨(), trivial, rfl, by rw [h9, e1]; exact hz, fun q h1 h2 => by rw [h9, e1]; exact hk q h1 h2⟩) hL (by omega) (by omega) T' rfl X'
    exact ⟨t2, st.trans a1, b1⟩
theorem run_VX (hC : CallFix p m c cc nL s args BIG own) {C : String} {y : MethodName} {bytes : ByteArray} {maxL index b mc ms cells slots : Nat} {rm : Room} {As : List Value} {B : State → Prop} {Qc : Array Value → State → Outcome → State → Prop} {XC : String → State → State → Prop} {free : Addr → Prop}
    (hM : vx_Met l y (wB y bytes maxL ret) rm (va_Pc (.ref b :: As) B) Qc XC mc ms free) (hrc : rm.cells = mc) (hrs : rm.slots = ms)
    (w1 : Cond.methodLink own index y ∈ BIG) (w2 : Cond.instanceMethod y ∈ BIG) (w3 : Cond.selects C y y ∈ BIG) (w4 : Cond.initialized C ∈ BIG) (w5 : Cond.code y bytes maxL ret ∈ BIG) (hd : y.cls = C ∧ nArgs y As.length)
    (hbl : FrameBlind (va_Pc (.ref b :: As) B)) (hrecv : ∃ cell : Cell, H[b]? = some cell ∧ cell.vm.isStatics = false ∧ s.vm.findClass C = some cell.cls) (hP : ∀ U : State, U.heap = H → s.WarmedH U.vm → B U)
    (hsz : ls.size = nL) (hW : (rest.map fun v => v.category).sum ≤ 8) (hR : rm.frames + 1 ≤ R.frames ∧ 8 + (maxL + 11) + rm.locals ≤ R.locals) (hf : cells + mc ≤ R.cells ∧ slots + ms ≤ R.slots) (hst : st0 = As.reverse ++ .ref b :: rest) (hdg : decode cc pc = .ok (.invokevirtual index, 3)) :
    vx_Run p l e R s m args below meth c H locs cells slots mc ms (F0 m pc ls st0) rest (Qc (.ref b :: As).toArray) XC free :=
  vx_runV (C := C) hC hM (cwV As.length hC.2.2.2.2 (gBV w1 w2 w3 w4 w5) rfl hrc hrs hd hR) ⟨hbl, hrecv, fun U hU hW => ⟨rfl, hP U hU hW⟩⟩ rfl rfl hsz hst (lv_room hW) hdg hf
theorem run_SX (hC : CallFix p m c cc nL s args BIG own) {y : MethodName} {bytes : ByteArray} {maxL index mc ms cells slots : Nat} {rm : Room} {As : List Value} {B : State → Prop} {Qc : Array Value → State → Outcome → State → Prop} {XC : String → State → State → Prop} {free : Addr → Prop}
    (hM : vx_Met l y (wB y bytes maxL ret) rm (va_Pc As B) Qc XC mc ms free) (hrc : rm.cells = mc) (hrs : rm.slots = ms)
    (w1 : Cond.methodLink own index y ∈ BIG) (w2 : Cond.static y ∈ BIG) (w4 : Cond.initialized y.cls ∈ BIG) (w5 : Cond.code y bytes maxL ret ∈ BIG) (hd : nArgs y As.length)
    (hbl : FrameBlind (va_Pc As B)) (hP : ∀ U : State, U.heap = H → s.WarmedH U.vm → B U)
    (hsz : ls.size = nL) (hW : (rest.map fun v => v.category).sum ≤ 8) (hR : rm.frames + 1 ≤ R.frames ∧ 8 + (maxL + 11) + rm.locals ≤ R.locals) (hf : cells + mc ≤ R.cells ∧ slots + ms ≤ R.slots) (hst : st0 = As.reverse ++ rest) (hdg : decode cc pc = .ok (.invokestatic index, 3)) :
    vx_Run p l e R s m args below meth c H locs cells slots mc ms (F0 m pc ls st0) rest (Qc As.toArray) XC free :=
  vx_runS hC hM (va_cwS As.length hC.2.2.2.2 (gBS w1 w2 w4 w5) rfl hrc hrs hd hR) ⟨hbl, fun U hU hW => ⟨rfl, hP U hU hW⟩⟩ rfl rfl hsz hst (lv_room hW) hdg hf
theorem jx_IAE {is : Nat} {text : String} {Qc : Array Value → State → Outcome → State → Prop} (hC : CallFix p m c cc nL s args BIG RX8) (hl9 : l.stackTraces = false) (hT : gTh A s) (hex : ∀ x ∈ c.exceptionTable.toList, False) (hlk : meth.locks = false) (hsz : ls.size = nL) (hin : (is, text) ∈ xStr) (hR : 6 ≤ R.frames ∧ 90 ≤ R.locals ∧ 1 ≤ R.cells ∧ 6 ≤ R.slots) (hrest : (rest.map fun v => v.category).sum ≤ 8) (hQ : vx_MQ below Qc (xN xIAE) args s 1 6 A = Q)
    (d0 : decode cc pc = .ok (.new 287, 3)) (d3 : decode cc (pc + 3) = .ok (.dup, 1)) (d4 : decode cc (pc + 4) = .ok (.ldc is, 2)) (d7 : decode cc (pc + 6) = .ok (.invokespecial 291, 3)) (d10 : decode cc (pc + 9) = .ok (.athrow, 1)) : W p l e R s m args below meth c s.heap [] 0 0 Q (F0 m pc ls rest) := by
  subst hQ
  obtain ⟨hx, hb, hml, hown, hB⟩ := hC
  obtain ⟨sa, hsa⟩ := hT.2.2.1 _ hin
  exact vx_throwS (names := xNm) (A := A) hx hb hl9 hown (by decide) (by decide) (hB _ ck_IAE) (hB _ ini_IAE) hsa (at_IAE hB hT) (List.all_eq_true.mp ot_IAE) hT.2.2.2.1 hT.2.2.2.2 va_S.rf (hsz.trans hml.symm) d0 d3 d4 d7 d10 (fun x hx => (hex x hx).elim) (by show 2 + 3 < _; omega) (by show _ + (13 * (2 + 1) + 43) ≤ _; omega) (by omega) (by omega) hlk (fun t _ h1 h2 => ⟨(), trivial, rfl, h1, fun q hq _ => h2 q hq⟩) (fun z hz => nomatch hz) (by omega) (by omega)
theorem jx_IAEW {is : Nat} {text : String} {Qc : Array Value → State → Outcome → State → Prop} (hC : CallFix p m c cc nL s args BIG RX8) (hl9 : l.stackTraces = false) (hT : gTh A s) (hex : ∀ x ∈ c.exceptionTable.toList, False) (hlk : meth.locks = false) (hsz : ls.size = nL) (hin : (is, text) ∈ xStr) (hR : 6 ≤ R.frames ∧ 90 ≤ R.locals ∧ 1 ≤ R.cells ∧ 6 ≤ R.slots) (hrest : (rest.map fun v => v.category).sum ≤ 8) (hQ : vx_MQ below Qc (xN xIAE) args s 1 6 A = Q)
    (d0 : decode cc pc = .ok (.new 287, 3)) (d3 : decode cc (pc + 3) = .ok (.dup, 1)) (d4 : decode cc (pc + 4) = .ok (.ldc_w is, 3)) (d7 : decode cc (pc + 7) = .ok (.invokespecial 291, 3)) (d10 : decode cc (pc + 10) = .ok (.athrow, 1)) : W p l e R s m args below meth c s.heap [] 0 0 Q (F0 m pc ls rest) := by
  subst hQ
  obtain ⟨hx, hb, hml, hown, hB⟩ := hC
  obtain ⟨sa, hsa⟩ := hT.2.2.1 _ hin
  exact vx_throwSW (names := xNm) (A := A) hx hb hl9 hown (by decide) (by decide) (hB _ ck_IAE) (hB _ ini_IAE) hsa (at_IAE hB hT) (List.all_eq_true.mp ot_IAE) hT.2.2.2.1 hT.2.2.2.2 va_S.rf (hsz.trans hml.symm) d0 d3 d4 d7 d10 (fun x hx => (hex x hx).elim) (by show 2 + 3 < _; omega) (by show _ + (13 * (2 + 1) + 43) ≤ _; omega) (by omega) (by omega) hlk (fun t _ h1 h2 => ⟨(), trivial, rfl, h1, fun q hq _ => h2 q hq⟩) (fun z hz => nomatch hz) (by omega) (by omega)
theorem jx_ISE {is : Nat} {text : String} {Qc : Array Value → State → Outcome → State → Prop} (hC : CallFix p m c cc nL s args BIG RX8) (hl9 : l.stackTraces = false) (hT : gTh A s) (hex : ∀ x ∈ c.exceptionTable.toList, False) (hlk : meth.locks = false) (hsz : ls.size = nL) (hin : (is, text) ∈ xStr) (hR : 6 ≤ R.frames ∧ 90 ≤ R.locals ∧ 1 ≤ R.cells ∧ 6 ≤ R.slots) (hrest : (rest.map fun v => v.category).sum ≤ 8) (hQ : vx_MQ below Qc (xN xISE) args s 1 6 A = Q)
    (d0 : decode cc pc = .ok (.new 60, 3)) (d3 : decode cc (pc + 3) = .ok (.dup, 1)) (d4 : decode cc (pc + 4) = .ok (.ldc is, 2)) (d7 : decode cc (pc + 6) = .ok (.invokespecial 64, 3)) (d10 : decode cc (pc + 9) = .ok (.athrow, 1)) : W p l e R s m args below meth c s.heap [] 0 0 Q (F0 m pc ls rest) := by
  subst hQ
  obtain ⟨hx, hb, hml, hown, hB⟩ := hC
  obtain ⟨sa, hsa⟩ := hT.2.2.1 _ hin
  exact vx_throwS (names := xNm) (A := A) hx hb hl9 hown (by decide) (by decide) (hB _ ck_ISE) (hB _ ini_ISE) hsa (at_ISE hB hT) (List.all_eq_true.mp ot_ISE) hT.2.2.2.1 hT.2.2.2.2 va_S.rf (hsz.trans hml.symm) d0 d3 d4 d7 d10 (fun x hx => (hex x hx).elim) (by show 2 + 3 < _; omega) (by show _ + (13 * (2 + 1) + 43) ≤ _; omega) (by omega) (by omega) hlk (fun t _ h1 h2 => ⟨(), trivial, rfl, h1, fun q hq _ => h2 q hq⟩) (fun z hz => nomatch hz) (by omega) (by omega)
theorem jx_ISEW {is : Nat} {text : String} {Qc : Array Value → State → Outcome → State → Prop} (hC : CallFix p m c cc nL s args BIG RX8) (hl9 : l.stackTraces = false) (hT : gTh A s) (hex : ∀ x ∈ c.exceptionTable.toList, False) (hlk : meth.locks = false) (hsz : ls.size = nL) (hin : (is, text) ∈ xStr) (hR : 6 ≤ R.frames ∧ 90 ≤ R.locals ∧ 1 ≤ R.cells ∧ 6 ≤ R.slots) (hrest : (rest.map fun v => v.category).sum ≤ 8) (hQ : vx_MQ below Qc (xN xISE) args s 1 6 A = Q)
    (d0 : decode cc pc = .ok (.new 60, 3)) (d3 : decode cc (pc + 3) = .ok (.dup, 1)) (d4 : decode cc (pc + 4) = .ok (.ldc_w is, 3)) (d7 : decode cc (pc + 7) = .ok (.invokespecial 64, 3)) (d10 : decode cc (pc + 10) = .ok (.athrow, 1)) : W p l e R s m args below meth c s.heap [] 0 0 Q (F0 m pc ls rest) := by
  subst hQ
  obtain ⟨hx, hb, hml, hown, hB⟩ := hC
  obtain ⟨sa, hsa⟩ := hT.2.2.1 _ hin
  exact vx_throwSW (names := xNm) (A := A) hx hb hl9 hown (by decide) (by decide) (hB _ ck_ISE) (hB _ ini_ISE) hsa (at_ISE hB hT) (List.all_eq_true.mp ot_ISE) hT.2.2.2.1 hT.2.2.2.2 va_S.rf (hsz.trans hml.symm) d0 d3 d4 d7 d10 (fun x hx => (hex x hx).elim) (by show 2 + 3 < _; omega) (by show _ + (13 * (2 + 1) + 43) ≤ _; omega) (by omega) (by omega) hlk (fun t _ h1 h2 => ⟨(), trivial, rfl, h1, fun q hq _ => h2 q hq⟩) (fun z hz => nomatch hz) (by omega) (by omega)
theorem jx_IOE {is : Nat} {text : String} {Qc : Array Value → State → Outcome → State → Prop} (hC : CallFix p m c cc nL s args BIG RX8) (hl9 : l.stackTraces = false) (hT : gTh A s) (hex : ∀ x ∈ c.exceptionTable.toList, False) (hlk : meth.locks = false) (hsz : ls.size = nL) (hin : (is, text) ∈ xStr) (hR : 6 ≤ R.frames ∧ 90 ≤ R.locals ∧ 1 ≤ R.cells ∧ 6 ≤ R.slots) (hrest : (rest.map fun v => v.category).sum ≤ 8) (hQ : vx_MQ below Qc (xN xIOE) args s 1 6 A = Q)
    (d0 : decode cc pc = .ok (.new 292, 3)) (d3 : decode cc (pc + 3) = .ok (.dup, 1)) (d4 : decode cc (pc + 4) = .ok (.ldc is, 2)) (d7 : decode cc (pc + 6) = .ok (.invokespecial 296, 3)) (d10 : decode cc (pc + 9) = .ok (.athrow, 1)) : W p l e R s m args below meth c s.heap [] 0 0 Q (F0 m pc ls rest) := by
  subst hQ
  obtain ⟨hx, hb, hml, hown, hB⟩ := hC
  obtain ⟨sa, hsa⟩ := hT.2.2.1 _ hin
  exact vx_throwS (names := xNm) (A := A) hx hb hl9 hown (by decide) (by decide) (hB _ ck_IOE) (hB _ ini_IOE) hsa (at_IOE hB hT) (List.all_eq_true.mp ot_IOE) hT.2.2.2.1 hT.2.2.2.2 va_S.rf (hsz.trans hml.symm) d0 d3 d4 d7 d10 (fun x hx => (hex x hx).elim) (by show 2 + 3 < _; omega) (by show _ + (13 * (2 + 1) + 43) ≤ _; omega) (by omega) (by omega) hlk (fun t _ h1 h2 => ⟨(), trivial, rfl, h1, fun q hq _ => h2 q hq⟩) (fun z hz => nomatch hz) (by omega) (by omega)
theorem jx_IOEW {is : Nat} {text : String} {Qc : Array Value → State → Outcome → State → Prop} (hC : CallFix p m c cc nL s args BIG RX8) (hl9 : l.stackTraces = false) (hT : gTh A s) (hex : ∀ x ∈ c.exceptionTable.toList, False) (hlk : meth.locks = false) (hsz : ls.size = nL) (hin : (is, text) ∈ xStr) (hR : 6 ≤ R.frames ∧ 90 ≤ R.locals ∧ 1 ≤ R.cells ∧ 6 ≤ R.slots) (hrest : (rest.map fun v => v.category).sum ≤ 8) (hQ : vx_MQ below Qc (xN xIOE) args s 1 6 A = Q)
    (d0 : decode cc pc = .ok (.new 292, 3)) (d3 : decode cc (pc + 3) = .ok (.dup, 1)) (d4 : decode cc (pc + 4) = .ok (.ldc_w is, 3)) (d7 : decode cc (pc + 7) = .ok (.invokespecial 296, 3)) (d10 : decode cc (pc + 10) = .ok (.athrow, 1)) : W p l e R s m args below meth c s.heap [] 0 0 Q (F0 m pc ls rest) := by
  subst hQ
  obtain ⟨hx, hb, hml, hown, hB⟩ := hC
  obtain ⟨sa, hsa⟩ := hT.2.2.1 _ hin
  exact vx_throwSW (names := xNm) (A := A) hx hb hl9 hown (by decide) (by decide) (hB _ ck_IOE) (hB _ ini_IOE) hsa (at_IOE hB hT) (List.all_eq_true.mp ot_IOE) hT.2.2.2.1 hT.2.2.2.2 va_S.rf (hsz.trans hml.symm) d0 d3 d4 d7 d10 (fun x hx => (hex x hx).elim) (by show 2 + 3 < _; omega) (by show _ + (13 * (2 + 1) + 43) ≤ _; omega) (by omega) (by omega) hlk (fun t _ h1 h2 => ⟨(), trivial, rfl, h1, fun q hq _ => h2 q hq⟩) (fun z hz => nomatch hz) (by omega) (by omega)
end JX
