/-! THE REFERENCE'S WORLD: its fields and arrays by rows: M k i; scalars at M k 0 -/
abbrev MS : Type := Nat → Nat → Int32
def mLen : Nat → Nat := fun k => match k with
  | 2 => 64 | 3 => 64 | 5 => 3 | 7 => 16 | 8 => 16 | 9 => 16 | 11 => 10 | 12 => 30 | 13 => 30 | 14 => 30 | 15 => 30
  | 18 => 6 | 19 => 6 | 20 => 6 | 21 => 6 | 22 => 6 | 23 => 6 | 24 => 6 | 25 => 6 | 26 => 6 | 27 => 6 | 32 => 6 | 33 => 6
  | 35 => 1500 | 36 => 1500 | 37 => 1500 | 38 => 64 | 39 => 64 | _ => 0
def mZ : Nat → Bool := fun k => match k with
  | 2 => true | 3 => true | 26 => true | _ => false
theorem mLen_lt (k : Nat) : mLen k < 2 ^ 31 := by unfold mLen; split <;> decide
def mset (M : MS) (k j : Nat) (v : Int32) : MS := fun k' => if k' = k then upd (M k') j v else M k'
theorem mset_s (M : MS) (k j : Nat) (v : Int32) : mset M k j v k = upd (M k) j v := if_pos rfl
theorem mset_n (M : MS) {k k' : Nat} (j : Nat) (v : Int32) (h : k' ≠ k) : mset M k j v k' = M k' := if_neg h
def mFv (ma : Nat → Nat) (M : MS) (k : Nat) : Value := match mLen k with
  | 0 => .int (M k 0)
  | _ => .ref (ma k)
def mFs (ma : Nat → Nat) (M : MS) : List Value := (List.range 40).map (mFv ma M)
theorem mFs_len (ma : Nat → Nat) (M : MS) : (mFs ma M).length = 40 := by simp [mFs]
theorem mFs_get (ma : Nat → Nat) (M : MS) {k : Nat} (hk : k < 40) : (mFs ma M)[k]? = some (mFv ma M k) := by simp [mFs, hk]
theorem mFs_set (ma : Nat → Nat) (M : MS) {k : Nat} (hk : k < 40) (h0 : mLen k = 0) (x : Int32) : (mFs ma M).set k (.int x) = mFs ma (mset M k 0 x) := by
  apply List.ext_getElem?
  intro j
  rw [List.getElem?_set]
  by_cases hj : j < 40
  · by_cases e : k = j
    · subst e
      rw [if_pos rfl, if_pos (by rw [mFs_len]; exact hk), mFs_get _ _ hk]
      simp [mFv, h0, mset_s, upd]
    · rw [if_neg e, mFs_get _ _ hj, mFs_get _ _ hj]
      unfold mFv
      rw [mset_n M 0 x (Ne.symm e)]
  · rw [if_neg (by omega)]
    simp [mFs, hj]
abbrev mCls (G : gG) (k : Nat) : ClassId := if mZ k = true then G.2.2.1 else G.2.1
def WM (G : gG) (ma : Nat → Nat) (M : MS) (H : Heap) : Prop := va_at G.1 gCl (ma 0, .inr (9, mFs ma M)) H ∧ ∀ k, 0 < mLen k → va_at G.1 gCl (ma k, .inl (mCls G k, (mLen k, .inl (M k)))) H
def mI (ma : Nat → Nat) : Prop := (∀ k, 0 < mLen k → ma k ≠ ma 0) ∧ ∀ j k, 0 < mLen j → 0 < mLen k → ma j = ma k → j = k
def mA (ma : Nat → Nat) : Nat → Prop := fun q => q = ma 0 ∨ ∃ k, 0 < mLen k ∧ q = ma k
/-- rows that the reference uses as scratch: isDone, nextCells, far, found -/
def scr (k : Nat) : Bool := k == 26 || k == 27 || k == 38 || k == 39
def oI (o : Option Nat) : Int32 := match o with
  | none => -1
  | some k => nI k
theorem oI_none : oI none = -1 := rfl
theorem oI_some (k : Nat) : oI (some k) = nI k := rfl
/-- what is known of the distances that are laid -/
abbrev mD : Type := Option (Nat → Option Nat)
def WS (G : gG) (ma : Nat → Nat) (M : MS) (D : mD) (H : Heap) : Prop := ∃ M0 : MS, (∀ k, scr k = false → k < 40 → M0 k = M k) ∧ (∀ d, D = some d → ∀ c, c < 64 → M0 38 c = oI (d c)) ∧ WM G ma M0 H
theorem WS.of {G : gG} {ma : Nat → Nat} {M : MS} {H : Heap} (h : WM G ma M H) : WS G ma M none H := ⟨M, fun _ _ _ => rfl, fun _ h => (nomatch h), h⟩
theorem WS.none {G : gG} {ma : Nat → Nat} {M : MS} {D : mD} {H : Heap} (h : WS G ma M D H) : WS G ma M none H := by
  obtain ⟨M0, h1, -, h3⟩ := h
  exact ⟨M0, h1, fun _ h => (nomatch h), h3⟩
theorem WS.congr {G : gG} {ma : Nat → Nat} {M M' : MS} {D : mD} {H : Heap} (h : WS G ma M D H) (e : ∀ k, scr k = false → k < 40 → M k = M' k) : WS G ma M' D H := by
  obtain ⟨M0, h1, h2, h3⟩ := h
  exact ⟨M0, fun k a b => (h1 k a b).trans (e k a b), h2, h3⟩
def mB (G : gG) (ma : Nat → Nat) (M : MS) (D : mD) : State → Prop := fun U => WS G ma M D U.heap ∧ gK G U
theorem mB_blind {G : gG} {ma : Nat → Nat} {M : MS} {D : mD} {av : List Value} : FrameBlind (va_Pc av (mB G ma M D)) := fun _ _ _ _ h => ⟨h.1, h.2.1, h.2.2.blind⟩
/-- the end of a method that changes the world -/
abbrev mQi (G : gG) (ma : Nat → Nat) (D : mD) (post : Int32 → MS → Prop) : Array Value → State → Outcome → State → Prop := va_Qi (S := MS) post (fun M' t => WS G ma M' D t.heap) (mA ma)
abbrev mQv (G : gG) (ma : Nat → Nat) (D : mD) (post : MS → Prop) : Array Value → State → Outcome → State → Prop := va_Qv (S := MS) post (fun M' t => WS G ma M' D t.heap) (mA ma)
section MR
variable {p : Program} {l : Launch} {e : Env} {R : Room} {s : State} {m : MethodId} {args : Array Value} {below : List Frame} {meth : Method} {c : Code} {H : Heap} {locs : List Loc} {cells slots : Nat} {Q : State → Prop}
variable {cc : ByteArray} {pc nL : Nat} {ls : Array Slot} {rest : List Value} {G : gG} {ma : Nat → Nat} {M : MS}
theorem mr_get (hC : CallFix p m c cc nL s args BIG RX9) (hK : gK G s) (hM : WM G ma M H) (k : Nat) {index : Nat} (hk : k < 40) (hlink : Cond.fieldLink RX9 index "ShelfSwarmModel" (TX9 k).2.1 (TX9 k).2.2.1 ∈ BIG) (h1 : (TX9 k).1 = "ShelfSwarmModel") {v : Value} (hv : mFv ma M k = v) (hdg : decode cc pc = .ok (.getfield index, 3))
    (kk : W p l e R s m args below meth c H locs cells slots Q (F0 m (pc + 3) ls (v :: rest))) : W p l e R s m args below meth c H locs cells slots Q (F0 m pc ls (.ref (ma 0) :: rest)) :=
  r1_get hC hK.1 hM.1 lay_X9 rfl k hk hlink (fun x hx => by rw [h1] at hx; exact hx) (by rw [mFs_get _ _ hk, hv]) hdg kk
theorem mr_put (hC : CallFix p m c cc nL s args BIG RX9) (hK : gK G s) (hI : mI ma) (hM : WM G ma M H) {A : Nat → Prop} (hS : va_S A s.heap H locs) (hA0 : A (ma 0)) (k : Nat) {index : Nat} (hk : k < 40) (h0 : mLen k = 0) (hlink : Cond.fieldLink RX9 index "ShelfSwarmModel" (TX9 k).2.1 (TX9 k).2.2.1 ∈ BIG) (h1 : (TX9 k).1 = "ShelfSwarmModel") (hfin : (TX9 k).2.2.2 = false) (hty : tyX9 k = .int) {x : Int32} (hdg : decode cc pc = .ok (.putfield index, 3))
    (kk : ∀ (H1 : Heap) (locs1 : List Loc), WM G ma (mset M k 0 x) H1 → va_S A s.heap H1 locs1 → W p l e R s m args below meth c H1 locs1 cells slots Q (F0 m (pc + 3) ls rest)) : W p l e R s m args below meth c H locs cells slots Q (F0 m pc ls (.int x :: .ref (ma 0) :: rest)) := by
  refine r1_put hC hK.1 hM.1 lay_X9 tyX9 tyX9_ok nmX9 rfl k hk hlink (fun x hx => by rw [h1] at hx; exact hx) hfin (by rw [hty]; rfl) (by rw [hty]; rfl) (by rw [mFs_len]; exact hk) hdg (fun H1 i e1 z oq => ?_)
  refine kk H1 _ ⟨?_, fun j hj => ?_⟩ (hS.put z oq hA0)
  · rw [← mFs_set ma M hk h0]; exact e1
  · have hjk : j ≠ k := fun q => by rw [q, h0] at hj; omega
    rw [mset_n M 0 x hjk]
    exact (hM.2 j hj).kept (oq _ (hI.1 j hj))
theorem mr_ild (hC : CallFix p m c cc nL s args BIG RX9) (hK : gK G s) (hM : WM G ma M H) (k : Nat) {i : Nat} (hi : i < mLen k) (hz : mZ k = false) {v : Int32} (hv : M k i = v) (hdg : decode cc pc = .ok (.iaload, 1))
    (kk : W p l e R s m args below meth c H locs cells slots Q (F0 m (pc + 1) ls (.int v :: rest))) : W p l e R s m args below meth c H locs cells slots Q (F0 m pc ls (.int (nI i) :: .ref (ma k) :: rest)) := by
  have h := hM.2 k (by omega)
  simp only [mCls, hz] at h
  exact r1_ild hC hK.1 0 rfl h hi (mLen_lt k) hv hdg kk
theorem mr_zld (hC : CallFix p m c cc nL s args BIG RX9) (hK : gK G s) (hM : WM G ma M H) (k : Nat) {i : Nat} (hi : i < mLen k) (hz : mZ k = true) {v : Int32} (hv : M k i = v) (hdg : decode cc pc = .ok (.baload, 1))
    (kk : W p l e R s m args below meth c H locs cells slots Q (F0 m (pc + 1) ls (.int v :: rest))) : W p l e R s m args below meth c H locs cells slots Q (F0 m pc ls (.int (nI i) :: .ref (ma k) :: rest)) := by
  have h := hM.2 k (by omega)
  simp only [mCls, hz] at h
  exact r1_zld hC hK.1 1 rfl h hi (mLen_lt k) hv hdg kk
theorem WM_row (hI : mI ma) (hM : WM G ma M H) {k i : Nat} {x : Int32} (hk : 0 < mLen k) {H1 : Heap} (h : va_at G.1 gCl (ma k, .inl (mCls G k, (mLen k, .inl (upd (M k) i x)))) H1) (oq : ∀ q : Nat, q ≠ ma k → H1[q]? = H[q]?) : WM G ma (mset M k i x) H1 := by
  refine ⟨?_, fun j hj => ?_⟩
  · have e : mFs ma (mset M k i x) = mFs ma M := by
      unfold mFs
      apply List.map_congr_left
      intro j _
      unfold mFv
      by_cases hjk : j = k
      · subst hjk
        cases hl : mLen j with
        | zero => omega
        | succ n => rfl
      · rw [mset_n M i x hjk]
    rw [e]
    exact hM.1.kept (oq _ (fun q => hI.1 k hk q.symm))
  · by_cases hjk : j = k
    · subst hjk
      rw [mset_s]
      exact h
    · rw [mset_n M i x hjk]
      exact (hM.2 j hj).kept (oq _ (fun q => hjk (hI.2 j k hj hk q)))
theorem mr_ist (hC : CallFix p m c cc nL s args BIG RX9) (hK : gK G s) (hI : mI ma) (hM : WM G ma M H) {A : Nat → Prop} (hS : va_S A s.heap H locs) (k : Nat) (hA0 : A (ma k)) {i : Nat} (hi : i < mLen k) (hz : mZ k = false) {x : Int32} (hdg : decode cc pc = .ok (.iastore, 1))
    (kk : ∀ (H1 : Heap) (locs1 : List Loc), WM G ma (mset M k i x) H1 → va_S A s.heap H1 locs1 → W p l e R s m args below meth c H1 locs1 cells slots Q (F0 m (pc + 1) ls rest)) : W p l e R s m args below meth c H locs cells slots Q (F0 m pc ls (.int x :: .int (nI i) :: .ref (ma k) :: rest)) := by
  have h := hM.2 k (by omega)
  have hc : mCls G k = G.2.1 := by simp [mCls, hz]
  rw [hc] at h
  refine r1_ist hC hK.1 0 rfl h hi (mLen_lt k) hdg (fun H1 j e1 z oq => ?_)
  exact kk H1 _ (WM_row hI hM (by omega) (by rw [hc]; exact e1) oq) (hS.put z oq hA0)
theorem mr_zst (hC : CallFix p m c cc nL s args BIG RX9) (hK : gK G s) (hI : mI ma) (hM : WM G ma M H) {A : Nat → Prop} (hS : va_S A s.heap H locs) (k : Nat) (hA0 : A (ma k)) {i : Nat} (hi : i < mLen k) (hz : mZ k = true) {x : Int32} (b : Bool) (hx : x = bI b) (hdg : decode cc pc = .ok (.bastore, 1))
    (kk : ∀ (H1 : Heap) (locs1 : List Loc), WM G ma (mset M k i (bI b)) H1 → va_S A s.heap H1 locs1 → W p l e R s m args below meth c H1 locs1 cells slots Q (F0 m (pc + 1) ls rest)) : W p l e R s m args below meth c H locs cells slots Q (F0 m pc ls (.int x :: .int (nI i) :: .ref (ma k) :: rest)) := by
  subst hx
  have h := hM.2 k (by omega)
  have hc : mCls G k = G.2.2.1 := by simp [mCls, hz]
  rw [hc] at h
  refine r1_zst hC hK.1 1 rfl h hi (mLen_lt k) hdg (fun H1 j e1 z oq => ?_)
  exact kk H1 _ (WM_row hI hM (by omega) (by rw [hc]; exact e1) oq) (hS.put z oq hA0)
theorem mA_0 : mA ma (ma 0) := Or.inl rfl
theorem mA_k {k : Nat} (h : 0 < mLen k) : mA ma (ma k) := Or.inr ⟨k, h, rfl⟩
theorem mset_sc {M M0 : MS} {k i : Nat} {x : Int32} (h1 : ∀ k, scr k = false → k < 40 → M0 k = M k) : ∀ k', scr k' = false → k' < 40 → mset M0 k i x k' = mset M k i x k' := by
  intro k' a b
  unfold mset
  rw [h1 k' a b]
theorem mset_38 {M0 : MS} {D : mD} {k i : Nat} {x : Int32} (hk : scr k = false) (h2 : ∀ d, D = some d → ∀ c, c < 64 → M0 38 c = oI (d c)) : ∀ d, D = some d → ∀ c, c < 64 → mset M0 k i x 38 c = oI (d c) := by
  intro d e c hc
  rw [mset_n M0 i x (show (38 : Nat) ≠ k from fun q => by rw [← q] at hk; cases hk)]
  exact h2 d e c hc
variable {D : mD}
theorem ms_get (hC : CallFix p m c cc nL s args BIG RX9) (hK : gK G s) (hM : WS G ma M D H) (k : Nat) {index : Nat} (hk : k < 40) (hlink : Cond.fieldLink RX9 index "ShelfSwarmModel" (TX9 k).2.1 (TX9 k).2.2.1 ∈ BIG) (h1 : (TX9 k).1 = "ShelfSwarmModel") {v : Value} (hv : mFv ma M k = v) (hs : mLen k = 0 → scr k = false) (hdg : decode cc pc = .ok (.getfield index, 3))
    (kk : W p l e R s m args below meth c H locs cells slots Q (F0 m (pc + 3) ls (v :: rest))) : W p l e R s m args below meth c H locs cells slots Q (F0 m pc ls (.ref (ma 0) :: rest)) := by
  obtain ⟨M0, a1, a2, a3⟩ := hM
  refine mr_get hC hK a3 k hk hlink h1 ?_ hdg kk
  rw [← hv]
  unfold mFv
  cases hl : mLen k with
  | zero => simp only [a1 k (hs hl) hk]
  | succ n => rfl
theorem ms_put (hC : CallFix p m c cc nL s args BIG RX9) (hK : gK G s) (hI : mI ma) (hM : WS G ma M D H) {A : Nat → Prop} (hS : va_S A s.heap H locs) (hA0 : A (ma 0)) (k : Nat) {index : Nat} (hk : k < 40) (h0 : mLen k = 0) (hlink : Cond.fieldLink RX9 index "ShelfSwarmModel" (TX9 k).2.1 (TX9 k).2.2.1 ∈ BIG) (h1 : (TX9 k).1 = "ShelfSwarmModel") (hfin : (TX9 k).2.2.2 = false) (hty : tyX9 k = .int) (hs : scr k = false) {x : Int32} (hdg : decode cc pc = .ok (.putfield index, 3))
    (kk : ∀ (H1 : Heap) (locs1 : List Loc), WS G ma (mset M k 0 x) D H1 → va_S A s.heap H1 locs1 → W p l e R s m args below meth c H1 locs1 cells slots Q (F0 m (pc + 3) ls rest)) : W p l e R s m args below meth c H locs cells slots Q (F0 m pc ls (.int x :: .ref (ma 0) :: rest)) := by
  obtain ⟨M0, a1, a2, a3⟩ := hM
  exact mr_put hC hK hI a3 hS hA0 k hk h0 hlink h1 hfin hty hdg (fun H1 locs1 hM1 hS1 => kk H1 locs1 ⟨_, mset_sc a1, mset_38 hs a2, hM1⟩ hS1)
theorem ms_ild (hC : CallFix p m c cc nL s args BIG RX9) (hK : gK G s) (hM : WS G ma M D H) (k : Nat) {i : Nat} (hi : i < mLen k) (hk : k < 40) (hz : mZ k = false) (hs : scr k = false) {v : Int32} (hv : M k i = v) (hdg : decode cc pc = .ok (.iaload, 1))
    (kk : W p l e R s m args below meth c H locs cells slots Q (F0 m (pc + 1) ls (.int v :: rest))) : W p l e R s m args below meth c H locs cells slots Q (F0 m pc ls (.int (nI i) :: .ref (ma k) :: rest)) := by
  obtain ⟨M0, a1, a2, a3⟩ := hM
  exact mr_ild hC hK a3 k hi hz (by rw [a1 k hs hk]; exact hv) hdg kk
theorem ms_dld {d : Nat → Option Nat} (hC : CallFix p m c cc nL s args BIG RX9) (hK : gK G s) (hM : WS G ma M (some d) H) {i : Nat} (hi : i < 64) {v : Int32} (hv : oI (d i) = v) (hdg : decode cc pc = .ok (.iaload, 1))
    (kk : W p l e R s m args below meth c H locs cells slots Q (F0 m (pc + 1) ls (.int v :: rest))) : W p l e R s m args below meth c H locs cells slots Q (F0 m pc ls (.int (nI i) :: .ref (ma 38) :: rest)) := by
  obtain ⟨M0, a1, a2, a3⟩ := hM
  exact mr_ild hC hK a3 38 hi rfl (by rw [a2 d rfl i hi]; exact hv) hdg kk
theorem ms_zld (hC : CallFix p m c cc nL s args BIG RX9) (hK : gK G s) (hM : WS G ma M D H) (k : Nat) {i : Nat} (hi : i < mLen k) (hk : k < 40) (hz : mZ k = true) (hs : scr k = false) {v : Int32} (hv : M k i = v) (hdg : decode cc pc = .ok (.baload, 1))
    (kk : W p l e R s m args below meth c H locs cells slots Q (F0 m (pc + 1) ls (.int v :: rest))) : W p l e R s m args below meth c H locs cells slots Q (F0 m pc ls (.int (nI i) :: .ref (ma k) :: rest)) := by
  obtain ⟨M0, a1, a2, a3⟩ := hM
  exact mr_zld hC hK a3 k hi hz (by rw [a1 k hs hk]; exact hv) hdg kk
theorem ms_ist (hC : CallFix p m c cc nL s args BIG RX9) (hK : gK G s) (hI : mI ma) (hM : WS G ma M D H) {A : Nat → Prop} (hS : va_S A s.heap H locs) (k : Nat) (hA0 : A (ma k)) {i : Nat} (hi : i < mLen k) (hz : mZ k = false) (hs : scr k = false) {x : Int32} (hdg : decode cc pc = .ok (.iastore, 1))
    (kk : ∀ (H1 : Heap) (locs1 : List Loc), WS G ma (mset M k i x) D H1 → va_S A s.heap H1 locs1 → W p l e R s m args below meth c H1 locs1 cells slots Q (F0 m (pc + 1) ls rest)) : W p l e R s m args below meth c H locs cells slots Q (F0 m pc ls (.int x :: .int (nI i) :: .ref (ma k) :: rest)) := by
  obtain ⟨M0, a1, a2, a3⟩ := hM
  exact mr_ist hC hK hI a3 hS k hA0 hi hz hdg (fun H1 locs1 hM1 hS1 => kk H1 locs1 ⟨_, mset_sc a1, mset_38 hs a2, hM1⟩ hS1)
theorem ms_zst (hC : CallFix p m c cc nL s args BIG RX9) (hK : gK G s) (hI : mI ma) (hM : WS G ma M D H) {A : Nat → Prop} (hS : va_S A s.heap H locs) (k : Nat) (hA0 : A (ma k)) {i : Nat} (hi : i < mLen k) (hz : mZ k = true) (hs : scr k = false) {x : Int32} (b : Bool) (hx : x = bI b) (hdg : decode cc pc = .ok (.bastore, 1))
    (kk : ∀ (H1 : Heap) (locs1 : List Loc), WS G ma (mset M k i (bI b)) D H1 → va_S A s.heap H1 locs1 → W p l e R s m args below meth c H1 locs1 cells slots Q (F0 m (pc + 1) ls rest)) : W p l e R s m args below meth c H locs cells slots Q (F0 m pc ls (.int x :: .int (nI i) :: .ref (ma k) :: rest)) := by
  obtain ⟨M0, a1, a2, a3⟩ := hM
  exact mr_zst hC hK hI a3 hS k hA0 hi hz b hx hdg (fun H1 locs1 hM1 hS1 => kk H1 locs1 ⟨_, mset_sc a1, mset_38 hs a2, hM1⟩ hS1)
theorem mr_recv (hK : gK G s) (hM : WS G ma M D H) : ∃ cell : Cell, H[ma 0]? = some cell ∧ cell.vm.isStatics = false ∧ s.vm.findClass RX9 = some cell.cls := by
  obtain ⟨M0, -, -, h⟩ := hM
  exact va_at_cell hK.1 h.1 rfl
theorem mr_B (hK : gK G s) (hM : WS G ma M D H) : ∀ U : State, U.heap = H → s.WarmedH U.vm → mB G ma M D U := fun U h hW => ⟨by rw [h]; exact hM, hK.warm hW⟩
end MR

/-! CALLS AND ENDS, in one line each -/
section CL
variable {p : Program} {l : Launch} {e : Env} {R : Room} {s : State} {m : MethodId} {args : Array Value} {below : List Frame} {meth : Method} {c : Code} {H : Heap} {locs : List Loc} {cells slots : Nat} {Q : State → Prop}
variable {cc : ByteArray} {pc nL : Nat} {ls : Array Slot} {rest st0 : List Value} {own : String}
theorem gBV {C : String} {y : MethodName} {bytes : ByteArray} {maxL index : Nat} {ret : Option FieldType} (w1 : Cond.methodLink own index y ∈ BIG) (w2 : Cond.instanceMethod y ∈ BIG) (w3 : Cond.selects C y y ∈ BIG) (w4 : Cond.initialized C ∈ BIG) (w5 : Cond.code y bytes maxL ret ∈ BIG) : GoodIn BIG (wsV own index C y (wB y bytes maxL ret)) := by
  have g : ∀ {w : Cond}, w ∈ BIG → w ∈ BIG ∧ ((w.onTables && w.keeps) = true ∨ ∃ ty, w = .arrayClass ty) := fun h => ⟨h, good_of_word (BIG_good h)⟩
  intro w hw
  unfold wsV at hw
  rcases List.mem_append.mp hw with h | h
  · simp only [List.mem_cons, List.not_mem_nil, or_false] at h
    rcases h with rfl | rfl | rfl | rfl
    · exact g w1
    · exact g w2
    · exact g w3
    · exact g w4
  · exact gB0 w5 w h
theorem gBS {y : MethodName} {bytes : ByteArray} {maxL index : Nat} {ret : Option FieldType} (w1 : Cond.methodLink own index y ∈ BIG) (w2 : Cond.static y ∈ BIG) (w4 : Cond.initialized y.cls ∈ BIG) (w5 : Cond.code y bytes maxL ret ∈ BIG) : GoodIn BIG (va_wsS own index y (wB y bytes maxL ret)) := by
  have g : ∀ {w : Cond}, w ∈ BIG → w ∈ BIG ∧ ((w.onTables && w.keeps) = true ∨ ∃ ty, w = .arrayClass ty) := fun h => ⟨h, good_of_word (BIG_good h)⟩
  intro w hw
  unfold va_wsS at hw
  rcases List.mem_append.mp hw with h | h
  · simp only [List.mem_cons, List.not_mem_nil, or_false] at h
    rcases h with rfl | rfl | rfl
    · exact g w1
    · exact g w2
    · exact g w4
  · exact gB0 w5 w h
abbrev nArgs (y : MethodName) (n : Nat) : Prop := y.cls ≠ "java/lang/invoke/MethodHandle" ∧ y.cls ≠ "java/lang/invoke/VarHandle" ∧ (parseMethodDescriptor y.desc).map (fun d => d.parameters.length) = some n
theorem run_V (hC : CallFix p m c cc nL s args BIG own) {C : String} {y : MethodName} {bytes : ByteArray} {maxL index b mc ms : Nat} {ret : Option FieldType} {rm : Room} {As : List Value} {B : State → Prop} {Qc : Array Value → State → Outcome → State → Prop} {free : Addr → Prop}
    (hM : Met l y (wB y bytes maxL ret) rm (va_Pc (.ref b :: As) B) Qc mc ms free) (hrc : rm.cells = mc) (hrs : rm.slots = ms)
    (w1 : Cond.methodLink own index y ∈ BIG) (w2 : Cond.instanceMethod y ∈ BIG) (w3 : Cond.selects C y y ∈ BIG) (w4 : Cond.initialized C ∈ BIG) (w5 : Cond.code y bytes maxL ret ∈ BIG) (hd : y.cls = C ∧ nArgs y As.length)
    (hbl : FrameBlind (va_Pc (.ref b :: As) B)) (hrecv : ∃ cell : Cell, H[b]? = some cell ∧ cell.vm.isStatics = false ∧ s.vm.findClass C = some cell.cls) (hP : ∀ U : State, U.heap = H → s.WarmedH U.vm → B U)
    (hsz : ls.size = nL) (hW : (rest.map fun v => v.category).sum ≤ 8) (hR : rm.frames + 1 ≤ R.frames ∧ 8 + (maxL + 11) + rm.locals ≤ R.locals) (hf : cells + mc ≤ R.cells ∧ slots + ms ≤ R.slots) (hst : st0 = As.reverse ++ .ref b :: rest) (hdg : decode cc pc = .ok (.invokevirtual index, 3)) :
    va_Run p l e R s m args below meth c H locs cells slots mc ms (F0 m pc ls st0) rest (Qc (.ref b :: As).toArray) free :=
  va_runV (C := C) hC hM (cwV As.length hC.2.2.2.2 (gBV w1 w2 w3 w4 w5) rfl hrc hrs hd hR) ⟨hbl, hrecv, fun U hU hW => ⟨rfl, hP U hU hW⟩⟩ rfl rfl hsz hst (lv_room hW) hdg hf
theorem run_S (hC : CallFix p m c cc nL s args BIG own) {y : MethodName} {bytes : ByteArray} {maxL index mc ms : Nat} {ret : Option FieldType} {rm : Room} {As : List Value} {B : State → Prop} {Qc : Array Value → State → Outcome → State → Prop} {free : Addr → Prop}
    (hM : Met l y (wB y bytes maxL ret) rm (va_Pc As B) Qc mc ms free) (hrc : rm.cells = mc) (hrs : rm.slots = ms)
    (w1 : Cond.methodLink own index y ∈ BIG) (w2 : Cond.static y ∈ BIG) (w4 : Cond.initialized y.cls ∈ BIG) (w5 : Cond.code y bytes maxL ret ∈ BIG) (hd : nArgs y As.length)
    (hbl : FrameBlind (va_Pc As B)) (hP : ∀ U : State, U.heap = H → s.WarmedH U.vm → B U)
    (hsz : ls.size = nL) (hW : (rest.map fun v => v.category).sum ≤ 8) (hR : rm.frames + 1 ≤ R.frames ∧ 8 + (maxL + 11) + rm.locals ≤ R.locals) (hf : cells + mc ≤ R.cells ∧ slots + ms ≤ R.slots) (hst : st0 = As.reverse ++ rest) (hdg : decode cc pc = .ok (.invokestatic index, 3)) :
    va_Run p l e R s m args below meth c H locs cells slots mc ms (F0 m pc ls st0) rest (Qc As.toArray) free :=
  va_runS hC hM (va_cwS As.length hC.2.2.2.2 (gBS w1 w2 w4 w5) rfl hrc hrs hd hR) ⟨hbl, fun U hU hW => ⟨rfl, hP U hU hW⟩⟩ rfl rfl hsz hst (lv_room hW) hdg hf
theorem tB_blind {av : List Value} : FrameBlind (va_Pc av (fun _ => True)) := fun _ _ _ _ h => ⟨h.1, trivial⟩
/-- calls of the reference's methods that write -/
theorem mcl_i {G : gG} {ma : Nat → Nat} {D : mD} {A : Nat → Prop} {post : Int32 → MS → Prop} {a : Array Value} (hr : va_Run p l e R s m args below meth c H locs cells slots 0 0 (F0 m pc ls st0) rest (mQi G ma D post a) (mA ma)) (hS : va_S A s.heap H locs) (hAA : ∀ q, mA ma q → A q)
    (kk : ∀ (r : Int32) (M' : MS) (H1 : Heap) (locs1 : List Loc), post r M' → WS G ma M' D H1 → va_S A s.heap H1 locs1 → W p l e R s m args below meth c H1 locs1 cells slots Q (F0 m (pc + 3) ls (.int r :: rest))) : W p l e R s m args below meth c H locs cells slots Q (F0 m pc ls st0) :=
  va_calli hr hS (fun q _ h => hAA q h) hAA (fun r u t H1 locs1 ht _ hp hB _ _ hS1 => kk r u H1 locs1 hp (by rw [← ht]; exact hB) hS1)
theorem mcl_v {G : gG} {ma : Nat → Nat} {D : mD} {A : Nat → Prop} {post : MS → Prop} {a : Array Value} (hr : va_Run p l e R s m args below meth c H locs cells slots 0 0 (F0 m pc ls st0) rest (mQv G ma D post a) (mA ma)) (hS : va_S A s.heap H locs) (hAA : ∀ q, mA ma q → A q)
    (kk : ∀ (M' : MS) (H1 : Heap) (locs1 : List Loc), post M' → WS G ma M' D H1 → va_S A s.heap H1 locs1 → W p l e R s m args below meth c H1 locs1 cells slots Q (F0 m (pc + 3) ls rest)) : W p l e R s m args below meth c H locs cells slots Q (F0 m pc ls st0) :=
  va_callv hr hS (fun q _ h => hAA q h) hAA (fun u t H1 locs1 ht _ hp hB _ _ hS1 => kk u H1 locs1 hp (by rw [← ht]; exact hB) hS1)
/-- ends of the reference's methods that write -/
theorem rt_mi {G : gG} {ma : Nat → Nat} {M : MS} {D : mD} {post : Int32 → MS → Prop} {x : Int32} (hx : p.tables.exec = Jvm.exec) (hb : c.code = cc) (hr : meth.sig.returnType = some .int) (hlk : meth.locks = false) (hM : WS G ma M D H) (hS : va_S (mA ma) s.heap H locs) (h : post x M) (hdg : decode cc pc = .ok (.ireturn, 1)) : W p l e R s m args below meth c H locs cells slots (MQ below (mQi G ma D post) args s cells slots (mA ma)) (F0 m pc ls [.int x]) :=
  W.iret hx hb hr (fun t ht _ => ⟨⟨x, M, rfl, h, by show WS G ma M D t.heap; rw [ht]; exact hM⟩, hS.F ht⟩) hS.2.2 hdg hlk
theorem rt_mz {G : gG} {ma : Nat → Nat} {M : MS} {D : mD} {post : Int32 → MS → Prop} {x : Int32} (b : Bool) (hx : p.tables.exec = Jvm.exec) (hb : c.code = cc) (hr : meth.sig.returnType = some .boolean) (hlk : meth.locks = false) (hM : WS G ma M D H) (hS : va_S (mA ma) s.heap H locs) (he : x = bI b) (h : post (bI b) M) (hdg : decode cc pc = .ok (.ireturn, 1)) : W p l e R s m args below meth c H locs cells slots (MQ below (mQi G ma D post) args s cells slots (mA ma)) (F0 m pc ls [.int x]) := by
  subst he
  exact W.zret hx hb hr (bI_nar b) (fun t ht _ => ⟨⟨bI b, M, rfl, h, by show WS G ma M D t.heap; rw [ht]; exact hM⟩, hS.F ht⟩) hS.2.2 hdg hlk
theorem rt_mv {G : gG} {ma : Nat → Nat} {M : MS} {D : mD} {post : MS → Prop} (hx : p.tables.exec = Jvm.exec) (hb : c.code = cc) (hr : meth.sig.returnType = none) (hlk : meth.locks = false) (hM : WS G ma M D H) (hS : va_S (mA ma) s.heap H locs) (h : post M) (hdg : decode cc pc = .ok (.return_, 1)) : W p l e R s m args below meth c H locs cells slots (MQ below (mQv G ma D post) args s cells slots (mA ma)) (F0 m pc ls []) :=
  W.vret hx hb hr (fun t ht _ => ⟨⟨M, rfl, h, by show WS G ma M D t.heap; rw [ht]; exact hM⟩, hS.F ht⟩) hS.2.2 hdg hlk
/-- a pure call, its answer under another name -/
theorem cl_pi {r x : Int32} {a : Array Value} (hr : va_Run p l e R s m args below meth c H locs cells slots 0 0 (F0 m pc ls st0) rest (k2_QcV (.int r) a) fN) (h : r = x) (kk : W p l e R s m args below meth c H locs cells slots Q (F0 m (pc + 3) ls (.int x :: rest))) : W p l e R s m args below meth c H locs cells slots Q (F0 m pc ls st0) := by
  subst h
  exact cl_p hr kk
theorem top_i {x y : Int32} (h : x = y) (k : W p l e R s m args below meth c H locs cells slots Q (F0 m pc ls (.int y :: rest))) : W p l e R s m args below meth c H locs cells slots Q (F0 m pc ls (.int x :: rest)) := h ▸ k
/-! comparisons of counters -/
theorem nI_eqI {a b : Nat} (ha : a < 2147483648) (hb : b < 2147483648) : nI a = nI b ↔ a = b := nI_eq ha hb
theorem ln_eq (hx : p.tables.exec = Jvm.exec) (hb : c.code = cc) {x y : Int32} {off : Int} {tgt a b : Nat} (hdg : decode cc pc = .ok (.if_icmp .eq off, 3)) (ht : (pc : Int) + off = (tgt : Int)) (ea : x = nI a) (eb : y = nI b) (ha : a < 2147483648) (hb2 : b < 2147483648)
    (kt : a = b → W p l e R s m args below meth c H locs cells slots Q (F0 m tgt ls rest)) (kf : ¬ a = b → W p l e R s m args below meth c H locs cells slots Q (F0 m (pc + 3) ls rest)) : W p l e R s m args below meth c H locs cells slots Q (F0 m pc ls (.int y :: .int x :: rest)) := by
  subst ea; subst eb
  exact lv_icmp_eq hx hb hdg ht (fun h => kt ((nI_eq ha hb2).mp h)) (fun h => kf (fun q => h ((nI_eq ha hb2).mpr q)))
theorem ln_ne (hx : p.tables.exec = Jvm.exec) (hb : c.code = cc) {x y : Int32} {off : Int} {tgt a b : Nat} (hdg : decode cc pc = .ok (.if_icmp .ne off, 3)) (ht : (pc : Int) + off = (tgt : Int)) (ea : x = nI a) (eb : y = nI b) (ha : a < 2147483648) (hb2 : b < 2147483648)
    (kt : ¬ a = b → W p l e R s m args below meth c H locs cells slots Q (F0 m tgt ls rest)) (kf : a = b → W p l e R s m args below meth c H locs cells slots Q (F0 m (pc + 3) ls rest)) : W p l e R s m args below meth c H locs cells slots Q (F0 m pc ls (.int y :: .int x :: rest)) := by
  subst ea; subst eb
  exact lv_icmp_ne hx hb hdg ht (fun h => kt (fun q => h ((nI_eq ha hb2).mpr q))) (fun h => kf ((nI_eq ha hb2).mp h))
theorem ln_lt (hx : p.tables.exec = Jvm.exec) (hb : c.code = cc) {x y : Int32} {off : Int} {tgt a b : Nat} (hdg : decode cc pc = .ok (.if_icmp .lt off, 3)) (ht : (pc : Int) + off = (tgt : Int)) (ea : x = nI a) (eb : y = nI b) (ha : a < 2147483648) (hb2 : b < 2147483648)
    (kt : a < b → W p l e R s m args below meth c H locs cells slots Q (F0 m tgt ls rest)) (kf : ¬ a < b → W p l e R s m args below meth c H locs cells slots Q (F0 m (pc + 3) ls rest)) : W p l e R s m args below meth c H locs cells slots Q (F0 m pc ls (.int y :: .int x :: rest)) := by
  subst ea; subst eb
  exact lv_icmp_lt hx hb hdg ht (fun h => kt ((nI_ltI ha hb2).mp h)) (fun h => kf (fun q => h ((nI_ltI ha hb2).mpr q)))
theorem ln_ge (hx : p.tables.exec = Jvm.exec) (hb : c.code = cc) {x y : Int32} {off : Int} {tgt a b : Nat} (hdg : decode cc pc = .ok (.if_icmp .ge off, 3)) (ht : (pc : Int) + off = (tgt : Int)) (ea : x = nI a) (eb : y = nI b) (ha : a < 2147483648) (hb2 : b < 2147483648)
    (kt : b ≤ a → W p l e R s m args below meth c H locs cells slots Q (F0 m tgt ls rest)) (kf : ¬ b ≤ a → W p l e R s m args below meth c H locs cells slots Q (F0 m (pc + 3) ls rest)) : W p l e R s m args below meth c H locs cells slots Q (F0 m pc ls (.int y :: .int x :: rest)) := by
  subst ea; subst eb
  exact lv_icmp_ge hx hb hdg ht (fun h => kt ((nI_leI hb2 ha).mp h)) (fun h => kf (fun q => h ((nI_leI hb2 ha).mpr q)))
theorem ln_gt (hx : p.tables.exec = Jvm.exec) (hb : c.code = cc) {x y : Int32} {off : Int} {tgt a b : Nat} (hdg : decode cc pc = .ok (.if_icmp .gt off, 3)) (ht : (pc : Int) + off = (tgt : Int)) (ea : x = nI a) (eb : y = nI b) (ha : a < 2147483648) (hb2 : b < 2147483648)
    (kt : b < a → W p l e R s m args below meth c H locs cells slots Q (F0 m tgt ls rest)) (kf : ¬ b < a → W p l e R s m args below meth c H locs cells slots Q (F0 m (pc + 3) ls rest)) : W p l e R s m args below meth c H locs cells slots Q (F0 m pc ls (.int y :: .int x :: rest)) := by
  subst ea; subst eb
  exact lv_icmp_gt hx hb hdg ht (fun h => kt ((nI_ltI hb2 ha).mp h)) (fun h => kf (fun q => h ((nI_ltI hb2 ha).mpr q)))
theorem ln_le (hx : p.tables.exec = Jvm.exec) (hb : c.code = cc) {x y : Int32} {off : Int} {tgt a b : Nat} (hdg : decode cc pc = .ok (.if_icmp .le off, 3)) (ht : (pc : Int) + off = (tgt : Int)) (ea : x = nI a) (eb : y = nI b) (ha : a < 2147483648) (hb2 : b < 2147483648)
    (kt : a ≤ b → W p l e R s m args below meth c H locs cells slots Q (F0 m tgt ls rest)) (kf : ¬ a ≤ b → W p l e R s m args below meth c H locs cells slots Q (F0 m (pc + 3) ls rest)) : W p l e R s m args below meth c H locs cells slots Q (F0 m pc ls (.int y :: .int x :: rest)) := by
  subst ea; subst eb
  exact lv_icmp_le hx hb hdg ht (fun h => kt ((nI_leI ha hb2).mp h)) (fun h => kf (fun q => h ((nI_leI ha hb2).mpr q)))
theorem lb_eq (hx : p.tables.exec = Jvm.exec) (hb : c.code = cc) {b : Bool} {off : Int} {tgt : Nat} (hdg : decode cc pc = .ok (.ifCond .eq off, 3)) (ht : (pc : Int) + off = (tgt : Int))
    (kt : b = false → W p l e R s m args below meth c H locs cells slots Q (F0 m tgt ls rest)) (kf : b = true → W p l e R s m args below meth c H locs cells slots Q (F0 m (pc + 3) ls rest)) : W p l e R s m args below meth c H locs cells slots Q (F0 m pc ls (.int (bI b) :: rest)) :=
  lv_if_eq hx hb hdg ht (fun h => kt (by cases b <;> simp_all [bI])) (fun h => kf (by cases b <;> simp_all [bI]))
theorem lb_ne (hx : p.tables.exec = Jvm.exec) (hb : c.code = cc) {b : Bool} {off : Int} {tgt : Nat} (hdg : decode cc pc = .ok (.ifCond .ne off, 3)) (ht : (pc : Int) + off = (tgt : Int))
    (kt : b = true → W p l e R s m args below meth c H locs cells slots Q (F0 m tgt ls rest)) (kf : b = false → W p l e R s m args below meth c H locs cells slots Q (F0 m (pc + 3) ls rest)) : W p l e R s m args below meth c H locs cells slots Q (F0 m pc ls (.int (bI b) :: rest)) :=
  lv_if_ne hx hb hdg ht (fun h => kt (by cases b <;> simp_all [bI])) (fun h => kf (by cases b <;> simp_all [bI]))
end CL
theorem nI_inc (k : Nat) : nI k + Int32.ofInt 1 = nI (k + 1) := nI_1 k
theorem nI_dec (k : Nat) : nI (k + 1) + Int32.ofInt (-1) = nI k := by rw [show Int32.ofInt (-1) = -1 from by decide]; exact pk_m1 k
/-- a method's start, args and end named -/
theorem st_N {l : Launch} {y : MethodName} {cc : ByteArray} {maxL : Nat} {ret : Option FieldType} {rm : Room} {av : List Value} {B : State → Prop} {Qc : Array Value → State → Outcome → State → Prop} {mc ms : Nat} {free : Addr → Prop} {own : String} (hy : plainName y.cls = true) (hyo : y.cls = own) (hn : (lg_sl av).length ≤ maxL)
    (body : ∀ (p : Program) (e : Env) (s : State) (m : MethodId) (below : List Frame) (meth : Method) (c : Code) (ls : Array Slot) (args : Array Value) (Q : State → Prop), MQ below Qc args s mc ms free = Q → CallFix p m c cc maxL s args BIG own → meth.sig.returnType = ret → meth.locks = false → meth.name = y.name → lv_has ls maxL (lv_args 0 av) → B s →
      W p l e rm s m args below meth c s.heap [] 0 0 Q (F0 m 0 ls [])) : Met l y (wB y cc maxL ret) rm (va_Pc av B) Qc mc ms free :=
  st_M hy hyo hn (fun p e s m below meth c ls hx hb hr hB hown hml hlk hnm hl hP => body p e s m below meth c ls _ _ rfl ⟨hx, hb, hml, hown, hB⟩ hr hlk hnm hl hP)
theorem nI_m1 {k : Nat} (h : k < 2147483648) : ¬ nI k = -1 := by
  intro q
  have h1 := nI_toInt (n := k) h
  rw [q] at h1
  have h2 : (-1 : Int32).toInt = -1 := by decide
  omega
