/-! ROWS FOR ONE CELL: an array of references, an object that is made, what else the machine knows all along -/
theorem im_getClass : Cond.instanceMethod ⟨"java/lang/Object", "getClass", "()Ljava/lang/Class;"⟩ ∈ BIG := bwi 471 (by decide +kernel) (by decide)
theorem nat_getClass : Cond.native ⟨"java/lang/Object", "getClass", "()Ljava/lang/Class;"⟩ ∈ BIG := bwi 489 (by decide +kernel) (by decide)
theorem st_arraycopy : Cond.static arraycopyName ∈ BIG := bwi 500 (by decide +kernel) (by decide)
theorem nat_arraycopy : Cond.native arraycopyName ∈ BIG := bwi 501 (by decide +kernel) (by decide)
theorem se_getClass : Cond.selects "[Ljava/lang/Object;" ⟨"java/lang/Object", "getClass", "()Ljava/lang/Class;"⟩ ⟨"java/lang/Object", "getClass", "()Ljava/lang/Class;"⟩ ∈ BIG := bwi 1753 (by decide +kernel) (by decide)
/-- what the class's side needs beside gK: a mirror, two words of the tables -/
def gJ (mi : Nat) (S : State) : Prop := va_Mi "[Ljava/lang/Object;" mi S ∧ va_Dc S ∧ va_AO "java/lang/Object" S
theorem gJ.moved {mi : Nat} {s U : State} (hvm : s.vm.Alike U.vm) (h : gJ mi s) : gJ mi U := ⟨va_Mi.moved hvm h.1, va_Dc.moved hvm h.2.1, va_AO.moved hvm h.2.2⟩
theorem gJ.warm {mi : Nat} {s U : State} (hW : s.WarmedH U.vm) (h : gJ mi s) : gJ mi U := h.moved hW.alike
theorem gJ.blind {mi : Nat} {U : State} {g : JFrame} {mk : MethodId} {a : Array Value} (h : gJ mi U) : gJ mi (U.calling g mk a) := h.moved (s := U) (U := U.calling g mk a) (Vm.Alike.refl U.vm)
/-- an array of references -/
abbrev qE (G : gG) (n : Nat) (f : Nat → Option Nat) : va_E := .inl (G.2.2.2.1, (n, .inr (.inr (.inr (.inr f)))))
theorem arrV_cg {c : ClassId} {n : Nat} {f g : Nat → Value} (h : ∀ j, j < n → f j = g j) : arrV c n f = arrV c n g := by
  unfold arrV
  congr 1
  apply Array.ext
  · simp
  · intro i h1 h2
    simp at h1 h2 ⊢
    exact h i (by simpa using h1)
theorem qE_cg {G : gG} {n a : Nat} {f g : Nat → Option Nat} {H : Heap} (h : va_at G.1 gCl (a, qE G n f) H) (e : ∀ j, j < n → f j = g j) : va_at G.1 gCl (a, qE G n g) H := by
  show H[a]? = some (vp_cell _ _)
  rw [vp_cell_q, ← arrV_cg (f := fun j => va_rf (f j)) (fun j hj => by rw [e j hj])]
  exact h
/-- an element is an object of some class -/
abbrev gAny (s : State) (H : Heap) (a : Nat) : Prop := va_Any "java/lang/Object" s H a
theorem gAny_of {G : gG} {s : State} {H : Heap} {a ci : Nat} {r : vw_C} {fs : List Value} (hK : va_K G.1 gCl (gTys G) s) (h : va_at G.1 gCl (a, .inr (ci, fs)) H) (hc : gCl[ci]? = some r) (hN : va_Nw (.castable r.1 "java/lang/Object") s) : gAny s H a :=
  va_rAny hK (va_P1 h) (q0 := 0) rfl hc (fun comp c0 h1 h2 => by
    obtain ⟨c3, t3, w1, w2, w3⟩ := Cond.castable_spec (va_Nw.use (A := #[]) rfl hN)
    cases h1.symm.trans w2
    cases h2.symm.trans w1
    exact w3)
theorem gAny.kept {s : State} {H H1 : Heap} {a : Nat} (h : gAny s H a) (e : H1[a]? = H[a]?) : gAny s H1 a := by
  obtain ⟨c, h1, h2⟩ := h
  exact ⟨c, e.trans h1, h2⟩
section R2
variable {p : Program} {l : Launch} {e : Env} {R : Room} {s : State} {m : MethodId} {args : Array Value} {below : List Frame} {meth : Method} {c : Code} {H : Heap} {locs : List Loc} {cells slots : Nat} {Q : State → Prop}
variable {cc : ByteArray} {pc nL : Nat} {ls : Array Slot} {rest : List Value} {G : gG} {a : Nat} {own : String} {A : Nat → Prop} {H0 : Heap}
theorem r2_qld (hC : CallFix p m c cc nL s args BIG own) (hK : gK G s) {n i : Nat} {f : Nat → Option Nat} (hat : va_at G.1 gCl (a, qE G n f) H) (hi : i < n) (hn : n < 2 ^ 31) {v : Value} (hv : va_rf (f i) = v) (hdg : decode cc pc = .ok (.aaload, 1))
    (kk : W p l e R s m args below meth c H locs cells slots Q (F0 m (pc + 1) ls (v :: rest))) : W p l e R s m args below meth c H locs cells slots Q (F0 m pc ls (.int (nI i) :: .ref a :: rest)) := by
  refine va_aldq hC.1 hC.2.1 hK.1 (va_P1 hat) 0 2 rfl rfl (vp_in_nI hi hn) hdg ?_
  rw [nI_clamp (by omega), hv]
  exact kk
theorem r2_qlen (hC : CallFix p m c cc nL s args BIG own) (hK : gK G s) {n : Nat} {f : Nat → Option Nat} (hat : va_at G.1 gCl (a, qE G n f) H) (hdg : decode cc pc = .ok (.arraylength, 1))
    (kk : W p l e R s m args below meth c H locs cells slots Q (F0 m (pc + 1) ls (.int (nI n) :: rest))) : W p l e R s m args below meth c H locs cells slots Q (F0 m pc ls (.ref a :: rest)) :=
  va_alen hC.1 hC.2.1 hK.1 (va_P1 hat) 0 2 rfl rfl rfl hdg kk
theorem r2_qst (hC : CallFix p m c cc nL s args BIG own) (hK : gK G s) {n i v : Nat} {f : Nat → Option Nat} (hat : va_at G.1 gCl (a, qE G n f) H) (hS : va_S A H0 H locs) (hA : A a) (hr : gAny s H v) (hi : i < n) (hn : n < 2 ^ 31) (hdg : decode cc pc = .ok (.aastore, 1))
    (kk : ∀ (H1 : Heap) (locs1 : List Loc), va_at G.1 gCl (a, qE G n (va_up f i (some v))) H1 → H1.size = H.size → (∀ q : Nat, q ≠ a → H1[q]? = H[q]?) → va_S A H0 H1 locs1 → W p l e R s m args below meth c H1 locs1 cells slots Q (F0 m (pc + 1) ls rest)) : W p l e R s m args below meth c H locs cells slots Q (F0 m pc ls (.ref v :: .int (nI i) :: .ref a :: rest)) := by
  have hin := vp_in_nI hi hn
  obtain ⟨cellV, g1, g3, ⟨kC, hkC⟩, hasg⟩ := hr
  obtain ⟨kA, comp, k1, k2, k3, -⟩ := (hK.1.2 2 _ rfl).2
  obtain ⟨kE, hkE, -⟩ := Vm.findClass_spec k3
  have hcl : (nI i).toNatClampNeg = i := nI_clamp (by omega)
  refine W.aast hC.1 hC.2.1 (show H[a]? = some (vp_cell G.2.2.2.1 (n, .inr (.inr (.inr (.inr f))))) from hat) (fun q h => by cases h) (fun h => by cases h) k1 k2 rfl hkE ⟨nI_pos (by omega), by show _ < (arrV _ _ _).slots.size; rw [arrV_size, hcl]; exact hi⟩ g1 (fun q h => by rw [h] at g3; cases g3) hkC (hasg _ k3) rfl rfl hdg fun H1 e z oq => ?_
  refine kk H1 _ ?_ z oq (hS.put z oq hA)
  show H1[a]? = some (vp_cell _ _)
  rw [e, hcl]
  rw [vp_cell_q, vp_cell_q, arrV_store]
  congr 2
  funext q
  by_cases hq : q = i
  · subst hq
    simp [updV, va_up, va_rf]
  · simp [updV, va_up, hq]
theorem r2_qstN (hC : CallFix p m c cc nL s args BIG own) (hK : gK G s) {n i : Nat} {f : Nat → Option Nat} (hat : va_at G.1 gCl (a, qE G n f) H) (hS : va_S A H0 H locs) (hA : A a) (hi : i < n) (hn : n < 2 ^ 31) (hdg : decode cc pc = .ok (.aastore, 1))
    (kk : ∀ (H1 : Heap) (locs1 : List Loc), va_at G.1 gCl (a, qE G n (va_up f i none)) H1 → H1.size = H.size → (∀ q : Nat, q ≠ a → H1[q]? = H[q]?) → va_S A H0 H1 locs1 → W p l e R s m args below meth c H1 locs1 cells slots Q (F0 m (pc + 1) ls rest)) : W p l e R s m args below meth c H locs cells slots Q (F0 m pc ls (.null :: .int (nI i) :: .ref a :: rest)) := by
  have hcl : (nI i).toNatClampNeg = i := nI_clamp (by omega)
  refine va_WaastN hC.1 hC.2.1 (show H[a]? = some (vp_cell G.2.2.2.1 (n, .inr (.inr (.inr (.inr f))))) from hat) ((hK.1.2 2 _ rfl).1 n (fun j => va_rf (f j))) (fun q => by cases q) (by show ¬ (_ ∨ (arrV _ _ _).slots.size ≤ _); rw [arrV_size]; exact vp_in_nI hi hn) rfl rfl hdg fun H1 e z oq => ?_
  refine kk H1 _ ?_ z oq (hS.put z oq hA)
  show H1[a]? = some (vp_cell _ _)
  rw [e, hcl]
  rw [vp_cell_q, vp_cell_q, arrV_store]
  congr 2
  funext q
  by_cases hq : q = i
  · subst hq
    simp [updV, va_up, va_rf]
  · simp [updV, va_up, hq]
theorem r2_qnew (hC : CallFix p m c cc nL s args BIG own) (hK : gK G s) (hJ : va_AO "java/lang/Object" s) (hS : va_S A H0 H locs) {index : Nat} (hlink : Cond.classLink own index "java/lang/Object" ∈ BIG) {n : Nat} (hn : n < 40000) (hcells : cells + 1 ≤ R.cells) (hslots : slots + n ≤ R.slots) (hdg : decode cc pc = .ok (.anewarray index, 3))
    (kk : ∀ (q : Nat) (H1 : Heap), q = H.size → va_at G.1 gCl (q, qE G n (fun _ => none)) H1 → H1.size = H.size + 1 → (∀ z : Nat, z < H.size → H1[z]? = H[z]?) → va_S A H0 H1 locs → W p l e R s m args below meth c H1 locs (cells + 1) (slots + n) Q (F0 m (pc + 3) ls (.ref q :: rest))) : W p l e R s m args below meth c H locs cells slots Q (F0 m pc ls (.int (nI n) :: rest)) := by
  have hcl : (nI n).toNatClampNeg = n := nI_clamp (by omega)
  obtain ⟨kA', comp', k1, k2, k3, k4⟩ := (hK.1.2 2 _ rfl).2
  refine W.anew hC.1 hC.2.1 hC.2.2.2.1 (hC.2.2.2.2 _ hlink) (va_AO.use hJ) rfl hdg rfl (nI_pos (by omega)) (by rw [hcl]; omega) hcells (by rw [hcl]; exact hslots) fun cA kA comp f1 f2 f3 f4 => ?_
  have hcA : cA = G.2.2.2.1 := Option.some.inj (f1.symm.trans k4)
  rw [hcl]
  have e1 : (H.push ({ cls := cA, slots := Array.replicate n .null, vm := .none } : Cell))[H.size]? = some (arrV cA n (fun _ => .null)) := by rw [Array.getElem?_push_size, ← arrV_new]
  refine kk H.size _ rfl ?_ (by rw [Array.size_push]) (fun z hz => by rw [Array.getElem?_push, if_neg (Nat.ne_of_lt hz)]) ⟨by rw [Array.size_push]; exact Nat.le_succ_of_le hS.1, fun x h1 h2 => ?_, hS.2.2⟩
  · show _ = some (vp_cell _ _)
    rw [vp_cell_q, ← hcA]
    exact e1
  · rw [Array.getElem?_push, if_neg (Nat.ne_of_lt (Nat.lt_of_lt_of_le h1 hS.1))]
    exact hS.2.1 x h1 h2
/-- an object is made -/
theorem r2_new (hC : CallFix p m c cc nL s args BIG own) (hK : gK G s) (hS : va_S A H0 H locs) {C : String} {T : u_T} {N ci index : Nat} (hin : ∀ w ∈ u_ws C T N, w ∈ BIG) (ty : Nat → FieldType) (hty : ∀ k, k < N → parseFieldDescriptor (T k).2.2.1 = some (ty k)) (hcl : Cond.classLink own index C ∈ BIG) (hinst : Cond.instantiable C N ∈ BIG) (hini : Cond.initialized C ∈ BIG)
    (hc : gCl[ci]? = some (C, T, N)) {fs : List Value} (hfs : ∀ j, j < N → defaultValue (ty j) = vp_V fs j) (hcells : cells + 1 ≤ R.cells) (hslots : slots + N ≤ R.slots) (hdg : decode cc pc = .ok (.new index, 3))
    (kk : ∀ (q : Nat) (H1 : Heap), q = H.size → va_at G.1 gCl (q, .inr (ci, fs)) H1 → H1.size = H.size + 1 → (∀ z : Nat, z < H.size → H1[z]? = H[z]?) → va_S A H0 H1 locs → W p l e R s m args below meth c H1 locs (cells + 1) (slots + N) Q (F0 m (pc + 3) ls (.ref q :: rest))) : W p l e R s m args below meth c H locs cells slots Q (F0 m pc ls rest) := by
  have hKn := hK.1.1 ci _ hc
  have hts := hC.2.2.2.2
  refine W.newcK hC.1 hC.2.1 hC.2.2.2.1 (hts _ hcl) (hts _ hinst) (hts _ hini) rfl hdg hcells hslots hKn.2.1 rfl fun H1 kC hkC e1 z1 o1 => ?_
  exact kk H.size H1 rfl ⟨_, hc, (u_born ty hts hin hKn hkC e1 hty).to hfs⟩ z1 o1 ⟨Nat.le_trans hS.1 (by omega), fun x h1 h2 => (o1 x (Nat.lt_of_lt_of_le h1 hS.1)).trans (hS.2.1 x h1 h2), hS.2.2⟩
/-- a field is written -/
theorem r2_put (hC : CallFix p m c cc nL s args BIG own) (hK : gK G s) (hS : va_S A H0 H locs) (hA : A a) {C ref : String} {T : u_T} {N ci index : Nat} {fs : List Value} (hat : va_at G.1 gCl (a, .inr (ci, fs)) H) (hin : ∀ w ∈ u_ws C T N, w ∈ BIG) (ty0 : Nat → FieldType) (hty : ∀ k, k < N → parseFieldDescriptor (T k).2.2.1 = some (ty0 k)) (hnm : ∀ a, a < N → ∀ b, b < N → a ≠ b → (T a).2.1 ≠ (T b).2.1) (hc : gCl[ci]? = some (C, T, N)) (k : Nat) (hk : k < N) (hlink : Cond.fieldLink own index ref (T k).2.1 (T k).2.2.1 ∈ BIG) (hsame : ∀ x, s.fieldFound? (T k).1 (T k).2.1 (T k).2.2.1 = some x → s.fieldFound? ref (T k).2.1 (T k).2.2.1 = some x) (hfin : (T k).2.2.2 = false) {v : Value} (hn : narrow (ty0 k) v = v) (hfit : fits (ty0 k) v = true) (hl : k < fs.length) (hdg : decode cc pc = .ok (.putfield index, 3))
    (kk : ∀ (H1 : Heap) (locs1 : List Loc), va_at G.1 gCl (a, .inr (ci, fs.set k v)) H1 → H1.size = H.size → (∀ q : Nat, q ≠ a → H1[q]? = H[q]?) → va_S A H0 H1 locs1 → W p l e R s m args below meth c H1 locs1 cells slots Q (F0 m (pc + 3) ls rest)) : W p l e R s m args below meth c H locs cells slots Q (F0 m pc ls (v :: .ref a :: rest)) :=
  r1_put hC hK.1 hat hin ty0 hty hnm hc k hk hlink hsame hfin hn hfit hl hdg (fun H1 i e1 z oq => kk H1 _ e1 z oq (hS.put z oq hA))
/-- a final field is written, in the constructor -/
theorem r2_putF (hC : CallFix p m c cc nL s args BIG own) (hK : gK G s) (hS : va_S A H0 H locs) (hA : A a) {C ref : String} {T : u_T} {N ci index : Nat} {fs : List Value} (hat : va_at G.1 gCl (a, .inr (ci, fs)) H) (hin : ∀ w ∈ u_ws C T N, w ∈ BIG) (ty0 : Nat → FieldType) (hty : ∀ k, k < N → parseFieldDescriptor (T k).2.2.1 = some (ty0 k)) (hnm : ∀ a, a < N → ∀ b, b < N → a ≠ b → (T a).2.1 ≠ (T b).2.1) (hc : gCl[ci]? = some (C, T, N)) (k : Nat) (hk : k < N) (hlink : Cond.fieldLink own index ref (T k).2.1 (T k).2.2.1 ∈ BIG) (hsame : ∀ x, s.fieldFound? (T k).1 (T k).2.1 (T k).2.2.1 = some x → s.fieldFound? ref (T k).2.1 (T k).2.2.1 = some x) (hfin : (T k).2.2.2 = true) (hin2 : meth.name = "<init>") (hdecl : (T k).1 = own) {v : Value} (hn : narrow (ty0 k) v = v) (hfit : fits (ty0 k) v = true) (hl : k < fs.length) (hdg : decode cc pc = .ok (.putfield index, 3))
    (kk : ∀ (H1 : Heap) (locs1 : List Loc), va_at G.1 gCl (a, .inr (ci, fs.set k v)) H1 → H1.size = H.size → (∀ q : Nat, q ≠ a → H1[q]? = H[q]?) → va_S A H0 H1 locs1 → W p l e R s m args below meth c H1 locs1 cells slots Q (F0 m (pc + 3) ls rest)) : W p l e R s m args below meth c H locs cells slots Q (F0 m pc ls (v :: .ref a :: rest)) :=
  r1_putF hC hK.1 hat hin ty0 hty hnm hc k hk hlink hsame hfin hin2 hdecl hn hfit hl hdg (fun H1 i e1 z oq => kk H1 _ e1 z oq (hS.put z oq hA))
theorem co_obj : Cond.code Lib.objectInit ⟨#[177]⟩ 1 none ∈ BIG := bwi 106 (by decide +kernel) (by decide)
theorem im_obj : Cond.instanceMethod Lib.objectInit ∈ BIG := bwi 105 (by decide +kernel) (by decide)
theorem sf_modCount : Cond.sameField "java/util/ArrayList" "java/util/AbstractList" "modCount" "I" ∈ BIG := bwi 147 (by decide +kernel) (by decide)
theorem sf_mod (hC : CallFix p m c cc nL s args BIG own) : ∀ x, s.fieldFound? "java/util/AbstractList" "modCount" "I" = some x → s.fieldFound? "java/util/ArrayList" "modCount" "I" = some x := fun x h => u_same (hC.2.2.2.2 _ sf_modCount) x h
theorem r2_oinit (hC : CallFix p m c cc nL s args BIG own) {idx : Nat} (w1 : Cond.methodLink own idx Lib.objectInit ∈ BIG) (hsz : ls.size = nL) (hW : (rest.map fun v => v.category).sum ≤ 8) (hR : 1 ≤ R.frames ∧ 20 ≤ R.locals) (hdg : decode cc pc = .ok (.invokespecial idx, 3))
    (kk : W p l e R s m args below meth c H locs cells slots Q (F0 m (pc + 3) ls rest)) : W p l e R s m args below meth c H locs cells slots Q (F0 m pc ls (.ref a :: rest)) :=
  W.objInit hC.1 hC.2.1 hC.2.2.2.1 (hC.2.2.2.2 _ w1) (hC.2.2.2.2 _ im_obj) (hC.2.2.2.2 _ co_obj) rfl (by show ls.size = _; rw [hC.2.2.1]; exact hsz) rfl hdg hR.1 (by show 2 * 0 + _ + 12 ≤ _; have := hR.2; omega) kk
/-- a constructor is called -/
theorem run_I {own : String} {y : MethodName} {bytes : ByteArray} {maxL index mc ms b : Nat} {rm : Room} {As : List Value} {st0 : List Value} {B : State → Prop} {Qc : Array Value → State → Outcome → State → Prop} {free : Addr → Prop}
    (hC : CallFix p m c cc nL s args BIG own) (hM : Met l y (wB y bytes maxL none) rm (va_Pc (.ref b :: As) B) Qc mc ms free) (hrc : rm.cells = mc) (hrs : rm.slots = ms)
    (w1 : Cond.methodLink own index y ∈ BIG) (w2 : Cond.instanceMethod y ∈ BIG) (w4 : Cond.initialized y.cls ∈ BIG) (w5 : Cond.code y bytes maxL none ∈ BIG) (hn : y.name = "<init>") (hd : nArgs y As.length)
    (hbl : FrameBlind (va_Pc (.ref b :: As) B)) (hP : ∀ U : State, U.heap = H → s.WarmedH U.vm → B U)
    (hsz : ls.size = nL) (hW : (rest.map fun v => v.category).sum ≤ 8) (hR : rm.frames + 1 ≤ R.frames ∧ 8 + (maxL + 11) + rm.locals ≤ R.locals) (hf : cells + mc ≤ R.cells ∧ slots + ms ≤ R.slots) (hst : st0 = As.reverse ++ .ref b :: rest) (hdg : decode cc pc = .ok (.invokespecial index, 3)) :
    va_Run p l e R s m args below meth c H locs cells slots mc ms (F0 m pc ls st0) rest (Qc (Value.ref b :: As).toArray) free :=
  va_runI hC hM (cwI As.length hC.2.2.2.2 (gB0 w5) rfl hrc hrs (hC.2.2.2.2 _ w4) (hC.2.2.2.2 _ w1) (hC.2.2.2.2 _ w2) hn hd hR) ⟨hbl, fun U hU hW => ⟨rfl, hP U hU hW⟩⟩ rfl rfl hsz hst (lv_room hW) hdg hf
/-- part of an array moved within it; beside it an object of the world -/
theorem r2_copy1 (hC : CallFix p m c cc nL s args BIG own) (hK : gK G s) {n sp dp k q ci : Nat} {fs : List Value} {f : Nat → Option Nat} (hat : va_at G.1 gCl (a, qE G n f) H) (hob : va_at G.1 gCl (q, .inr (ci, fs)) H) (hne : a ≠ q) (hS : va_S A H0 H locs) (hA : A a) (hAq : A q) {index : Nat} (hlink : Cond.methodLink own index arraycopyName ∈ BIG) (hsz : ls.size = nL) (h4 : sp + k ≤ n) (h5 : dp + k ≤ n) (hn : n < 2 ^ 31) (hel : ∀ i : Nat, i < k → ∀ y : Nat, f (sp + i) = some y → gAny s H y)
    (hR : 1 ≤ R.frames ∧ 60 ≤ R.locals) (hW : (rest.map fun v => v.category).sum ≤ 8) (hdg : decode cc pc = .ok (.invokestatic index, 3))
    (kk : ∀ (H1 : Heap) (locs1 : List Loc), va_at G.1 gCl (a, qE G n (va_cpy f f sp dp k)) H1 → va_at G.1 gCl (q, .inr (ci, fs)) H1 → va_S A H0 H1 locs1 → W p l e R s m args below meth c H1 locs1 cells slots Q (F0 m (pc + 3) ls rest)) : W p l e R s m args below meth c H locs cells slots Q (F0 m pc ls (.int (nI k) :: .int (nI dp) :: .ref a :: .int (nI sp) :: .ref a :: rest)) := by
  have hts := hC.2.2.2.2
  have c1 : (nI k).toNatClampNeg = k := nI_clamp (by omega)
  have c2 : (nI sp).toNatClampNeg = sp := nI_clamp (by omega)
  have c3 : (nI dp).toNatClampNeg = dp := nI_clamp (by omega)
  have hP : va_P G.1 gCl [(a, qE G n f), (q, .inr (ci, fs))] H := by
    intro j x hj
    match j, hj with
    | 0, hj => cases hj; exact hat
    | 1, hj => cases hj; exact hob
    | j + 2, hj => simp at hj
  have hD : va_D A [(a, qE G n f), (q, .inr (ci, fs))] := by
    refine ⟨fun i j x y hi hj e => ?_, fun j x hj => ?_⟩
    · match i, j, hi, hj with
      | 0, 0, _, _ => rfl
      | 0, 1, hi, hj => cases hi; cases hj; exact absurd e hne
      | 1, 0, hi, hj => cases hi; cases hj; exact absurd e.symm hne
      | 1, 1, _, _ => rfl
      | _ + 2, _, hi, _ => simp at hi
      | _, _ + 2, _, hj => simp at hj
    · match j, hj with
      | 0, hj => cases hj; exact hA
      | 1, hj => cases hj; exact hAq
      | j + 2, hj => simp at hj
  have h9 : nativeFrameWords "java/lang/System" "arraycopy" 5 + 11 ≤ 52 := by decide +kernel
  have h8 := hR.2
  refine va_copyM hC.1 hC.2.1 (by rw [hC.2.2.1, hsz]) hC.2.2.2.1 (hts _ hlink) (hts _ nat_arraycopy) (hts _ st_arraycopy) (hts _ ini_System) hK.1 hP hD hS 0 0 2 2 rfl rfl rfl rfl (nI_pos (by omega)) (nI_pos (by omega)) (nI_pos (by omega)) (by rw [c1, c2]; exact h4) (by rw [c1, c3]; exact h5) (fun i hi y hy => by rw [c1] at hi; rw [c2] at hy; exact hel i hi y hy) hR.1 (by omega) hdg (fun H1 locs1 hP1 hD1 hS1 => ?_)
  rw [c1, c2, c3] at hP1
  exact kk H1 locs1 (hP1 0 _ rfl) (hP1 1 _ rfl) hS1
/-- an array copied into another one -/
theorem r2_copy2 (hC : CallFix p m c cc nL s args BIG own) (hK : gK G s) {a0 n0 n sp dp k : Nat} {f g : Nat → Option Nat} (hat0 : va_at G.1 gCl (a0, qE G n0 f) H) (hat : va_at G.1 gCl (a, qE G n g) H) (hne : a0 ≠ a) (hS : va_S A H0 H locs) (hA0 : A a0) (hA : A a) {index : Nat} (hlink : Cond.methodLink own index arraycopyName ∈ BIG) (hsz : ls.size = nL) (h4 : sp + k ≤ n0) (h5 : dp + k ≤ n) (hn0 : n0 < 2 ^ 31) (hn : n < 2 ^ 31) (hel : ∀ i : Nat, i < k → ∀ y : Nat, f (sp + i) = some y → gAny s H y)
    (hR : 1 ≤ R.frames ∧ 60 ≤ R.locals) (hW : (rest.map fun v => v.category).sum ≤ 8) (hdg : decode cc pc = .ok (.invokestatic index, 3))
    (kk : ∀ (H1 : Heap) (locs1 : List Loc), va_at G.1 gCl (a, qE G n (va_cpy f g sp dp k)) H1 → va_S A H0 H1 locs1 → W p l e R s m args below meth c H1 locs1 cells slots Q (F0 m (pc + 3) ls rest)) : W p l e R s m args below meth c H locs cells slots Q (F0 m pc ls (.int (nI k) :: .int (nI dp) :: .ref a :: .int (nI sp) :: .ref a0 :: rest)) := by
  have hts := hC.2.2.2.2
  have c1 : (nI k).toNatClampNeg = k := nI_clamp (by omega)
  have c2 : (nI sp).toNatClampNeg = sp := nI_clamp (by omega)
  have c3 : (nI dp).toNatClampNeg = dp := nI_clamp (by omega)
  have hP : va_P G.1 gCl [(a0, qE G n0 f), (a, qE G n g)] H := by
    intro j x hj
    match j, hj with
    | 0, hj => cases hj; exact hat0
    | 1, hj => cases hj; exact hat
    | j + 2, hj => simp at hj
  have hD : va_D A [(a0, qE G n0 f), (a, qE G n g)] := by
    refine ⟨fun i j x y hi hj e => ?_, fun j x hj => ?_⟩
    · match i, j, hi, hj with
      | 0, 0, _, _ => rfl
      | 1, 1, _, _ => rfl
      | 0, 1, hi, hj => cases hi; cases hj; exact absurd e hne
      | 1, 0, hi, hj => cases hi; cases hj; exact absurd e.symm hne
      | _ + 2, _, hi, _ => simp at hi
      | _, _ + 2, _, hj => simp at hj
    · match j, hj with
      | 0, hj => cases hj; exact hA0
      | 1, hj => cases hj; exact hA
      | j + 2, hj => simp at hj
  have h9 : nativeFrameWords "java/lang/System" "arraycopy" 5 + 11 ≤ 52 := by decide +kernel
  have h8 := hR.2
  refine va_copyM hC.1 hC.2.1 (by rw [hC.2.2.1, hsz]) hC.2.2.2.1 (hts _ hlink) (hts _ nat_arraycopy) (hts _ st_arraycopy) (hts _ ini_System) hK.1 hP hD hS 0 1 2 2 rfl rfl rfl rfl (nI_pos (by omega)) (nI_pos (by omega)) (nI_pos (by omega)) (by rw [c1, c2]; exact h4) (by rw [c1, c3]; exact h5) (fun i hi y hy => by rw [c1] at hi; rw [c2] at hy; exact hel i hi y hy) hR.1 (by omega) hdg (fun H1 locs1 hP1 hD1 hS1 => ?_)
  rw [c1, c2, c3] at hP1
  exact kk H1 locs1 (hP1 1 _ rfl) hS1
/-- ends of methods that write, with room to spare -/
theorem rt_qi {S : Type} {B : S → State → Prop} {A : Nat → Prop} {post : Int32 → S → Prop} {mc ms : Nat} {x : Int32} (u : S) (hx : p.tables.exec = Jvm.exec) (hb : c.code = cc) (hr : meth.sig.returnType = some .int) (hlk : meth.locks = false) (hS : va_S A s.heap H locs) (h : post x u) (hB : ∀ t : State, t.heap = H → s.WarmedH t.vm → B u t) (h1 : cells ≤ mc) (h2 : slots ≤ ms) (hdg : decode cc pc = .ok (.ireturn, 1)) : W p l e R s m args below meth c H locs cells slots (MQ below (va_Qi post B A) args s mc ms A) (F0 m pc ls [.int x]) :=
  W.widen (k := mc) (n := ms) h1 h2 (W.iret hx hb hr (fun t ht hW => ⟨⟨x, u, rfl, h, hB t ht hW⟩, hS.F ht⟩) hS.2.2 hdg hlk)
theorem rt_qz {S : Type} {B : S → State → Prop} {A : Nat → Prop} {post : Int32 → S → Prop} {mc ms : Nat} {x : Int32} (u : S) (b : Bool) (hx : p.tables.exec = Jvm.exec) (hb : c.code = cc) (hr : meth.sig.returnType = some .boolean) (hlk : meth.locks = false) (hS : va_S A s.heap H locs) (he : x = bI b) (h : post (bI b) u) (hB : ∀ t : State, t.heap = H → s.WarmedH t.vm → B u t) (h1 : cells ≤ mc) (h2 : slots ≤ ms) (hdg : decode cc pc = .ok (.ireturn, 1)) : W p l e R s m args below meth c H locs cells slots (MQ below (va_Qi post B A) args s mc ms A) (F0 m pc ls [.int x]) := by
  subst he
  exact W.widen (k := mc) (n := ms) h1 h2 (W.zret hx hb hr (bI_nar b) (fun t ht hW => ⟨⟨bI b, u, rfl, h, hB t ht hW⟩, hS.F ht⟩) hS.2.2 hdg hlk)
theorem rt_qv {S : Type} {B : S → State → Prop} {A : Nat → Prop} {post : S → Prop} {mc ms : Nat} (u : S) (hx : p.tables.exec = Jvm.exec) (hb : c.code = cc) (hr : meth.sig.returnType = none) (hlk : meth.locks = false) (hS : va_S A s.heap H locs) (h : post u) (hB : ∀ t : State, t.heap = H → s.WarmedH t.vm → B u t) (h1 : cells ≤ mc) (h2 : slots ≤ ms) (hdg : decode cc pc = .ok (.return_, 1)) : W p l e R s m args below meth c H locs cells slots (MQ below (va_Qv post B A) args s mc ms A) (F0 m pc ls []) :=
  W.widen (k := mc) (n := ms) h1 h2 (W.vret hx hb hr (fun t ht hW => ⟨⟨u, rfl, h, hB t ht hW⟩, hS.F ht⟩) hS.2.2 hdg hlk)
theorem rt_qr {S : Type} {B : S → Nat → State → Prop} {A : Nat → Prop} {post : S → Prop} {mc ms a1 : Nat} {rt : FieldType} (u : S) (hx : p.tables.exec = Jvm.exec) (hb : c.code = cc) (hr : meth.sig.returnType = some rt) (hrt : (∃ n, rt = .object n) ∨ ∃ t, rt = .array t) (hlk : meth.locks = false) (hS : va_S A s.heap H locs) (h : post u) (hB : ∀ t : State, t.heap = H → s.WarmedH t.vm → B u a1 t) (h1 : cells ≤ mc) (h2 : slots ≤ ms) (hdg : decode cc pc = .ok (.areturn, 1)) : W p l e R s m args below meth c H locs cells slots (MQ below (va_Qr post B A) args s mc ms A) (F0 m pc ls [.ref a1]) :=
  W.widen (k := mc) (n := ms) h1 h2 (W.aret hx hb hr hrt (Or.inr ⟨_, rfl⟩) (fun t ht hW => ⟨⟨u, a1, rfl, h, hB t ht hW⟩, hS.F ht⟩) hS.2.2 hdg hlk)
end R2
