/-! BASE: one list of words for every method; the start and the end of a method; rows for single cells -/
def BIG : List Cond := lw_tbl.filter goodWord
theorem BIG_in {w : Cond} (h : w ∈ BIG) : w ∈ lw_tbl := (List.mem_filter.mp h).1
theorem BIG_good {w : Cond} (h : w ∈ BIG) : goodWord w = true := (List.mem_filter.mp h).2
theorem bwi {w : Cond} (i : Nat) (h : lw_tbl[i]? = some w) (g : goodWord w = true) : w ∈ BIG := List.mem_filter.mpr ⟨List.mem_of_getElem? h, g⟩
abbrev wB (y : MethodName) (cc : ByteArray) (n : Nat) (r : Option FieldType) : List Cond := Cond.code y cc n r :: BIG
theorem gB {c0 : Cond} {y : MethodName} {cc : ByteArray} {n : Nat} {r : Option FieldType} (h : Cond.code y cc n r ∈ BIG) : GoodIn (c0 :: BIG) (wB y cc n r) := by
  intro w hw
  rcases List.mem_cons.mp hw with rfl | h1
  · exact ⟨List.mem_cons_of_mem _ h, good_of_word (BIG_good h)⟩
  · exact ⟨List.mem_cons_of_mem _ h1, good_of_word (BIG_good h1)⟩
theorem gB0 {y : MethodName} {cc : ByteArray} {n : Nat} {r : Option FieldType} (h : Cond.code y cc n r ∈ BIG) : GoodIn BIG (wB y cc n r) := by
  intro w hw
  rcases List.mem_cons.mp hw with rfl | h1
  · exact ⟨h, good_of_word (BIG_good h)⟩
  · exact ⟨h1, good_of_word (BIG_good h1)⟩
abbrev rmL (d mc ms : Nat) : Room := { frames := 12 + d, cells := mc, slots := ms, locals := 300 + 40 * d }
/-- a method's start -/
theorem st_M {l : Launch} {y : MethodName} {cc : ByteArray} {maxL : Nat} {ret : Option FieldType} {rm : Room} {av : List Value} {B : State → Prop} {Qc : Array Value → State → Outcome → State → Prop} {mc ms : Nat} {free : Addr → Prop} {own : String} (hy : plainName y.cls = true) (hyo : y.cls = own) (hn : (lg_sl av).length ≤ maxL)
    (body : ∀ (p : Program) (e : Env) (s : State) (m : MethodId) (below : List Frame) (meth : Method) (c : Code) (ls : Array Slot), p.tables.exec = Jvm.exec → c.code = cc → meth.sig.returnType = ret → (∀ w ∈ BIG, w.before av.toArray s = true) → s.vm.findClass own = some m.cls → c.maxLocals = maxL → meth.locks = false → meth.name = y.name → lv_has ls maxL (lv_args 0 av) → B s →
      W p l e rm s m av.toArray below meth c s.heap [] 0 0 (MQ below Qc av.toArray s mc ms free) (F0 m 0 ls [])) : Met l y (wB y cc maxL ret) rm (va_Pc av B) Qc mc ms free := by
  refine Met.ofW (cc := cc) (maxL := maxL) (ret := ret) hy rfl ?_
  intro p e s m args below meth c s₁ B0 hml hv
  obtain ⟨rfl, hB⟩ := hv
  have hts := atoms_spec (ws := wB y cc maxL ret) B0.pre
  have hown : s.vm.findClass own = some m.cls := by rw [← hyo]; exact findClass_of_methodNamed B0.named
  have hin : meth.name = y.name := (name_of_methodNamed B0.named B0.method).1
  have h := body p e s m below meth c _ B0.exec B0.bytes B0.returns (fun w hw => hts w (List.mem_cons_of_mem _ hw)) hown hml B0.notSynchronized hin (lv_entry av hn) hB
  rw [lg_entry_eq]
  exact h
/-- a pure method's end: an answer, nothing written -/
def fN : Addr → Prop := fun _ => False
section RT
variable {p : Program} {l : Launch} {e : Env} {R : Room} {s : State} {m : MethodId} {args : Array Value} {below : List Frame} {meth : Method} {c : Code} {H : Heap} {locs : List Loc} {cells slots : Nat} {Q : State → Prop}
variable {cc : ByteArray} {pc : Nat} {ls : Array Slot} {rest st0 : List Value}
def bI (b : Bool) : Int32 := if b then 1 else 0
theorem bI_t : bI true = 1 := rfl
theorem bI_f : bI false = 0 := rfl
theorem bI_nar (b : Bool) : narrow .boolean (.int (bI b)) = .int (bI b) := by cases b <;> rfl
theorem rt_i {x y : Int32} (hx : p.tables.exec = Jvm.exec) (hb : c.code = cc) (hr : meth.sig.returnType = some .int) (hlk : meth.locks = false) (h : x = y) (hdg : decode cc pc = .ok (.ireturn, 1)) : W p l e R s m args below meth c s.heap [] 0 0 (MQ below (k2_QcV (.int y)) args s 0 0 fN) (F0 m pc ls [.int x]) := by
  subst h
  exact W.iret hx hb hr (fun t ht _ => ⟨rfl, ht⟩) (fun q hq => nomatch hq) hdg hlk
theorem rt_z {x : Int32} {b : Bool} (hx : p.tables.exec = Jvm.exec) (hb : c.code = cc) (hr : meth.sig.returnType = some .boolean) (hlk : meth.locks = false) (h : x = bI b) (hdg : decode cc pc = .ok (.ireturn, 1)) : W p l e R s m args below meth c s.heap [] 0 0 (MQ below (k2_QcV (.int (bI b))) args s 0 0 fN) (F0 m pc ls [.int x]) := by
  subst h
  exact W.zret hx hb hr (bI_nar b) (fun t ht _ => ⟨rfl, ht⟩) (fun q hq => nomatch hq) hdg hlk
theorem rt_l {x y : Int64} (hx : p.tables.exec = Jvm.exec) (hb : c.code = cc) (hr : meth.sig.returnType = some .long) (hlk : meth.locks = false) (h : x = y) (hdg : decode cc pc = .ok (.lreturn, 1)) : W p l e R s m args below meth c s.heap [] 0 0 (MQ below (k2_QcV (.long y)) args s 0 0 fN) (F0 m pc ls [.long x]) := by
  subst h
  exact W.lret hx hb hr (fun t ht _ => ⟨rfl, ht⟩) (fun q hq => nomatch hq) hdg hlk
theorem rt_a {v : Value} {r r' : Option Nat} {rt : FieldType} (hx : p.tables.exec = Jvm.exec) (hb : c.code = cc) (hr : meth.sig.returnType = some rt) (hrt : (∃ n, rt = .object n) ∨ ∃ t, rt = .array t) (hlk : meth.locks = false) (hv : v = va_rf r) (h : r = r') (hdg : decode cc pc = .ok (.areturn, 1)) : W p l e R s m args below meth c s.heap [] 0 0 (MQ below (k2_QcV (va_rf r')) args s 0 0 fN) (F0 m pc ls [v]) := by
  subst h; subst hv
  exact W.aret hx hb hr hrt (by cases r <;> simp [va_rf]) (fun t ht _ => ⟨rfl, ht⟩) (fun q hq => nomatch hq) hdg hlk
theorem rt_v (hx : p.tables.exec = Jvm.exec) (hb : c.code = cc) (hr : meth.sig.returnType = none) (hlk : meth.locks = false) (hdg : decode cc pc = .ok (.return_, 1)) {Qc : Array Value → State → Outcome → State → Prop} {free : Addr → Prop} {mc ms : Nat} (h1 : cells ≤ mc) (h2 : slots ≤ ms) (hq : ∀ t : State, t.heap = H → s.WarmedH t.vm → Qc args s (.returned none) t) (hf : ∀ q ∈ locs, free q.base) : W p l e R s m args below meth c H locs cells slots (MQ below Qc args s mc ms free) (F0 m pc ls []) :=
  W.widen (k := mc) (n := ms) h1 h2 (W.vret hx hb hr hq hf hdg hlk)
/-- a call of a pure method: the world stays -/
theorem cl_p {r : Value} {a : Array Value} (hr : va_Run p l e R s m args below meth c H locs cells slots 0 0 (F0 m pc ls st0) rest (k2_QcV r a) fN) (kk : W p l e R s m args below meth c H locs cells slots Q (F0 m (pc + 3) ls (r :: rest))) : W p l e R s m args below meth c H locs cells slots Q (F0 m pc ls st0) := by
  intro T hT X
  obtain ⟨v, st₀, t, T', L, h0, X', hL, e1, e2, ⟨hv, hh⟩, st⟩ := hr T hT X
  cases hv
  have hLn : L = [] := by
    cases L with
    | nil => rfl
    | cons q _ => exact (hL q List.mem_cons_self).elim
  subst hLn
  rw [List.append_nil] at X'
  obtain ⟨t2, a1, b1⟩ := kk T' (by rw [e1, hh, h0]) X'
  exact ⟨t2, st t2 a1, b1⟩
end RT
