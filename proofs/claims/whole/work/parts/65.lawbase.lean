/-! THE LAW'S WRAPPERS: their start, a call of one, a throw that one catches -/
theorem st_H {l : Launch} {y : MethodName} {cc : ByteArray} {maxL : Nat} {ret : Option FieldType} {hh : List (Nat × Nat × Nat × Nat)} {rm : Room} {av : List Value} {B : State → Prop} {Qc : Array Value → State → Outcome → State → Prop} {mc ms : Nat} {free : Addr → Prop} {own : String} (hy : plainName y.cls = true) (hyo : y.cls = own) (hn : (lg_sl av).length ≤ maxL)
    (body : ∀ (p : Program) (e : Env) (s : State) (m : MethodId) (below : List Frame) (meth : Method) (c : Code) (ls : Array Slot) (args : Array Value) (Q : State → Prop), MQ below Qc args s mc ms free = Q → CallFix p m c cc maxL s args BIG own → meth.sig.returnType = ret → meth.locks = false → c.exceptionTable.toList = tableOf hh → lv_has ls maxL (lv_args 0 av) → B s →
      W p l e rm s m args below meth c s.heap [] 0 0 Q (F0 m 0 ls [])) : Met l y (Cond.codeWith y cc maxL ret hh :: BIG) rm (va_Pc av B) Qc mc ms free := by
  refine MetFree.of_bodyS (code := cc) (maxLocals := maxL) (ret := ret) hy ?_ ?_
  · intro args s m h hn
    obtain ⟨m9, meth, c, hn9, h1, h2, h3, h4, -, h5, h6, -⟩ := Cond.codeWith_spec (atoms_spec (ws := Cond.codeWith y cc maxL ret hh :: BIG) h _ List.mem_cons_self)
    cases hn.symm.trans hn9
    exact ⟨meth, c, h1, h2, h3, h4, h5, h6⟩
  · intro p e s m args below meth c s₁ B0 hml hP _
    obtain ⟨rfl, hB⟩ := hP
    have hh0 : s₁.heap = s.heap := by rw [B0.state]; rfl
    have hts := atoms_spec (ws := Cond.codeWith y cc maxL ret hh :: BIG) B0.pre
    have htab : c.exceptionTable.toList = tableOf hh := vx_table (x := y) B0 (hts _ List.mem_cons_self)
    have hown : s.vm.findClass own = some m.cls := by rw [← hyo]; exact findClass_of_methodNamed B0.named
    have h := body p e s m below meth c _ _ _ rfl ⟨B0.exec, B0.bytes, hml, hown, fun w hw => hts w (List.mem_cons_of_mem _ hw)⟩ B0.returns B0.notSynchronized htab (lv_entry av hn) hB
    rw [← lg_entry_eq] at h
    obtain ⟨t, a1, o, b1, b2, b3⟩ := h s₁ hh0 (Stand.of_body B0)
    exact ⟨t, o, a1, b1, b2, b3⟩
section LB
variable {p : Program} {l : Launch} {e : Env} {R : Room} {s : State} {m : MethodId} {args : Array Value} {below : List Frame} {meth : Method} {c : Code} {H : Heap} {locs : List Loc} {cells slots : Nat} {Q : State → Prop}
variable {cc : ByteArray} {pc nL : Nat} {ls : Array Slot} {rest st0 : List Value} {a : Array Value} {A A0 : Nat → Prop} {own : String}
/-- a wrapper is called -/
theorem run_SH (hC : CallFix p m c cc nL s args BIG own) {y : MethodName} {bytes : ByteArray} {maxL index mc ms : Nat} {ret : Option FieldType} {hh : List (Nat × Nat × Nat × Nat)} {rm : Room} {As : List Value} {B : State → Prop} {Qc : Array Value → State → Outcome → State → Prop} {free : Addr → Prop}
    (hM : Met l y (Cond.codeWith y bytes maxL ret hh :: BIG) rm (va_Pc As B) Qc mc ms free) (hrc : rm.cells = mc) (hrs : rm.slots = ms)
    (w1 : Cond.methodLink own index y ∈ BIG) (w2 : Cond.static y ∈ BIG) (w4 : Cond.initialized y.cls ∈ BIG) (w5 : Cond.codeWith y bytes maxL ret hh ∈ BIG) (hd : nArgs y As.length)
    (hbl : FrameBlind (va_Pc As B)) (hP : ∀ U : State, U.heap = H → s.WarmedH U.vm → B U)
    (hsz : ls.size = nL) (hW : (rest.map fun v => v.category).sum ≤ 8) (hR : rm.frames + 1 ≤ R.frames ∧ 8 + (maxL + 11) + rm.locals ≤ R.locals) (hf : cells + mc ≤ R.cells ∧ slots + ms ≤ R.slots) (hst : st0 = As.reverse ++ rest) (hdg : decode cc pc = .ok (.invokestatic index, 3)) :
    va_Run p l e R s m args below meth c H locs cells slots mc ms (F0 m pc ls st0) rest (Qc As.toArray) free := by
  have hG : GoodIn BIG (Cond.codeWith y bytes maxL ret hh :: BIG) := fun w hw => by
    rcases List.mem_cons.mp hw with rfl | h1
    · exact ⟨w5, good_of_word (BIG_good w5)⟩
    · exact ⟨h1, good_of_word (BIG_good h1)⟩
  have hT : GoodIn BIG (va_wsS own index y (Cond.codeWith y bytes maxL ret hh :: BIG)) := fun w hw => by
    unfold va_wsS at hw
    rcases List.mem_append.mp hw with h | h
    · simp only [List.mem_cons, List.not_mem_nil, or_false] at h
      rcases h with rfl | rfl | rfl
      all_goals first | exact ⟨w1, good_of_word (BIG_good w1)⟩ | exact ⟨w2, good_of_word (BIG_good w2)⟩ | exact ⟨w4, good_of_word (BIG_good w4)⟩
    · exact hG w h
  exact vx_runSW hC hM (vx_cwSW As.length hC.2.2.2.2 hT rfl hrc hrs hd hR) ⟨hbl, fun U hU hW => ⟨rfl, hP U hU hW⟩⟩ rfl rfl hsz hst (lv_room hW) hdg hf
/-- the class threw: the row x of the table takes it -/
theorem jl_catch {cls name : String} (hr : vx_Run p l e R s m args below meth c H locs cells slots 1 6 (F0 m pc ls st0) rest (xQ a) (xN cls) A) (hS : va_S A0 s.heap H locs) (hAA : ∀ q, A q → A0 q)
    (hown : s.vm.findClass own = some m.cls) (pre : List ExceptionTableEntry) (x : ExceptionTableEntry) (suf : List ExceptionTableEntry) (hsplit : c.exceptionTable.toList = pre ++ x :: suf)
    (hpass : ∀ z ∈ pre, covers z pc = false ∨ (z.catchType ≠ 0 ∧ ∃ nm : String, (Cond.classLink own z.catchType nm).before args s = true ∧ va_Nc cls nm s)) (hx : covers x pc = true) (h0 : x.catchType ≠ 0)
    (hlink : (Cond.classLink own x.catchType name).before args s = true) (hcast : (Cond.castable cls name).before args s = true)
    (kk : ∀ (q : Nat) (H1 : Heap) (locs1 : List Loc), H.size ≤ H1.size → (∀ z : Nat, z < H.size → H1[z]? = H[z]?) → va_S A0 s.heap H1 locs1 → W p l e R s m args below meth c H1 locs1 (cells + 1) (slots + 6) Q (F0 m x.handlerPc ls [.ref q])) : W p l e R s m args below meth c H locs cells slots Q (F0 m pc ls st0) := by
  intro T hT X
  rcases hr T hT X with ⟨v, st₀, t, T', L, h0', X', hL, e1, e2, hF, st⟩ | ⟨q, st₀, t, T', L, E, ce, h0', X', hL, e1, e2, ⟨u, hp, hb, hF⟩, hce, hcv, hcl, st⟩
  · exact hF.elim
  · subst hb
    obtain ⟨hz, hk⟩ := hF
    rw [h0'] at hz hk
    have hS1 : va_S A0 s.heap T'.heap (locs ++ L) := ⟨Nat.le_trans hS.1 (by rw [e1]; exact hz), fun z h1 h2 => by rw [e1, hk z (Nat.lt_of_lt_of_le h1 hS.1) (fun h => h)]; exact hS.2.1 z h1 h2, fun z hz' => by
      rcases List.mem_append.mp hz' with h | h
      · exact hS.2.2 z h
      · exact hAA _ (hL z h)⟩
    obtain ⟨t2, a1, b1⟩ := vx_catch (rest := rest) (pc := pc) (ls := ls) (H := T'.heap) hown pre x suf hsplit hpass hx h0 hlink hcast (by rw [e1]; exact hce) hcv hcl (kk q T'.heap (locs ++ L) (by rw [e1]; exact hz) (fun z h1 => by rw [e1]; exact hk z h1 (fun h => h)) hS1) T' rfl X'
    exact ⟨t2, st.trans a1, b1⟩
end LB
