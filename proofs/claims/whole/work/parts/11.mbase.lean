/-! THE REFERENCE'S WORLD: its fields and arrays by rows: M k i; scalars at M k 0 -/
abbrev MS : Type := Nat → Nat → Int32
def mLen : Nat → Nat := fun k => match k with
  | 2 => 64 | 3 => 64 | 5 => 3 | 7 => 16 | 8 => 16 | 9 => 16 | 11 => 10 | 12 => 30 | 13 => 30 | 14 => 30 | 15 => 30
  | 18 => 6 | 19 => 6 | 20 => 6 | 21 => 6 | 22 => 6 | 23 => 6 | 24 => 6 | 25 => 6 | 26 => 6 | 27 => 6 | 32 => 6 | 33 => 6
  | 35 => 1500 | 36 => 1500 | 37 => 1500 | 38 => 64 | 39 => 64 | _ => 0
def mZ : Nat → Bool := fun k => match k with
  | 2 => true | 3 => true | 26 => true | _ => false
theorem mLen_lt (k : Nat) : mLen k < 2 ^ 31 := by unfold mLen; split <;> decide
def mset (M : MS) (k j : Nat) (v : Int32) : MS := fun k' => if k' = k then upd (M k') j v else M k'
theorem mset_s (M : MS) (k j : Nat) (v : Int32) : mset M k j v k = upd (M k) j v := if_pos rfl
theorem mset_n (M : MS) {k k' : Nat} (j : Nat) (v : Int32) (h : k' ≠ k) : mset M k j v k' = M k' := if_neg h
def mFv (ma : Nat → Nat) (M : MS) (k : Nat) : Value := match mLen k with
  | 0 => .int (M k 0)
  | _ => .ref (ma k)
def mFs (ma : Nat → Nat) (M : MS) : List Value := (List.range 40).map (mFv ma M)
theorem mFs_len (ma : Nat → Nat) (M : MS) : (mFs ma M).length = 40 := by simp [mFs]
theorem mFs_get (ma : Nat → Nat) (M : MS) {k : Nat} (hk : k < 40) : (mFs ma M)[k]? = some (mFv ma M k) := by simp [mFs, hk]
theorem mFs_set (ma : Nat → Nat) (M : MS) {k : Nat} (hk : k < 40) (h0 : mLen k = 0) (x : Int32) : (mFs ma M).set k (.int x) = mFs ma (mset M k 0 x) := by
  apply List.ext_getElem?
  intro j
  rw [List.getElem?_set]
  by_cases hj : j < 40
  · by_cases e : k = j
    · subst e
      rw [if_pos rfl, if_pos (by rw [mFs_len]; exact hk), mFs_get _ _ hk]
      simp [mFv, h0, mset_s, upd]
    · rw [if_neg e, mFs_get _ _ hj, mFs_get _ _ hj]
      unfold mFv
      rw [mset_n M 0 x (Ne.symm e)]
  · rw [if_neg (by omega)]
    simp [mFs, hj]
abbrev mCls (G : gG) (k : Nat) : ClassId := if mZ k = true then G.2.2.1 else G.2.1
def WM (G : gG) (ma : Nat → Nat) (M : MS) (H : Heap) : Prop := va_at G.1 gCl (ma 0, .inr (9, mFs ma M)) H ∧ ∀ k, 0 < mLen k → va_at G.1 gCl (ma k, .inl (mCls G k, (mLen k, .inl (M k)))) H
def mI (ma : Nat → Nat) : Prop := (∀ k, 0 < mLen k → ma k ≠ ma 0) ∧ ∀ j k, 0 < mLen j → 0 < mLen k → ma j = ma k → j = k
def mA (ma : Nat → Nat) : Nat → Prop := fun q => q = ma 0 ∨ ∃ k, 0 < mLen k ∧ q = ma k
def mB (G : gG) (ma : Nat → Nat) (M : MS) : State → Prop := fun U => WM G ma M U.heap ∧ gK G U
theorem mB_blind {G : gG} {ma : Nat → Nat} {M : MS} {av : List Value} : FrameBlind (va_Pc av (mB G ma M)) := fun _ _ _ _ h => ⟨h.1, h.2.1, h.2.2.blind⟩
/-- the end of a method that changes the world -/
abbrev mQi (G : gG) (ma : Nat → Nat) (post : Int32 → MS → Prop) : Array Value → State → Outcome → State → Prop := va_Qi (S := MS) post (fun M' t => WM G ma M' t.heap) (mA ma)
abbrev mQv (G : gG) (ma : Nat → Nat) (post : MS → Prop) : Array Value → State → Outcome → State → Prop := va_Qv (S := MS) post (fun M' t => WM G ma M' t.heap) (mA ma)
section MR
variable {p : Program} {l : Launch} {e : Env} {R : Room} {s : State} {m : MethodId} {args : Array Value} {below : List Frame} {meth : Method} {c : Code} {H : Heap} {locs : List Loc} {cells slots : Nat} {Q : State → Prop}
variable {cc : ByteArray} {pc nL : Nat} {ls : Array Slot} {rest : List Value} {G : gG} {ma : Nat → Nat} {M : MS}
theorem mr_get (hC : CallFix p m c cc nL s args BIG RX9) (hK : gK G s) (hM : WM G ma M H) (k : Nat) {index : Nat} (hk : k < 40) (hlink : Cond.fieldLink RX9 index "ShelfSwarmModel" (TX9 k).2.1 (TX9 k).2.2.1 ∈ BIG) (h1 : (TX9 k).1 = "ShelfSwarmModel") {v : Value} (hv : mFv ma M k = v) (hdg : decode cc pc = .ok (.getfield index, 3))
    (kk : W p l e R s m args below meth c H locs cells slots Q (F0 m (pc + 3) ls (v :: rest))) : W p l e R s m args below meth c H locs cells slots Q (F0 m pc ls (.ref (ma 0) :: rest)) :=
  r1_get hC hK.1 hM.1 lay_X9 rfl k hk hlink (fun x hx => by rw [h1] at hx; exact hx) (by rw [mFs_get _ _ hk, hv]) hdg kk
theorem mr_put (hC : CallFix p m c cc nL s args BIG RX9) (hK : gK G s) (hI : mI ma) (hM : WM G ma M H) {A : Nat → Prop} (hS : va_S A s.heap H locs) (hA0 : A (ma 0)) (k : Nat) {index : Nat} (hk : k < 40) (h0 : mLen k = 0) (hlink : Cond.fieldLink RX9 index "ShelfSwarmModel" (TX9 k).2.1 (TX9 k).2.2.1 ∈ BIG) (h1 : (TX9 k).1 = "ShelfSwarmModel") (hfin : (TX9 k).2.2.2 = false) (hty : tyX9 k = .int) {x : Int32} (hdg : decode cc pc = .ok (.putfield index, 3))
    (kk : ∀ (H1 : Heap) (locs1 : List Loc), WM G ma (mset M k 0 x) H1 → va_S A s.heap H1 locs1 → W p l e R s m args below meth c H1 locs1 cells slots Q (F0 m (pc + 3) ls rest)) : W p l e R s m args below meth c H locs cells slots Q (F0 m pc ls (.int x :: .ref (ma 0) :: rest)) := by
  refine r1_put hC hK.1 hM.1 lay_X9 tyX9 tyX9_ok nmX9 rfl k hk hlink (fun x hx => by rw [h1] at hx; exact hx) hfin (by rw [hty]; rfl) (by rw [hty]; rfl) (by rw [mFs_len]; exact hk) hdg (fun H1 i e1 z oq => ?_)
  refine kk H1 _ ⟨?_, fun j hj => ?_⟩ (hS.put z oq hA0)
  · rw [← mFs_set ma M hk h0]; exact e1
  · have hjk : j ≠ k := fun q => by rw [q, h0] at hj; omega
    rw [mset_n M 0 x hjk]
    exact (hM.2 j hj).kept (oq _ (hI.1 j hj))
theorem mr_ild (hC : CallFix p m c cc nL s args BIG RX9) (hK : gK G s) (hM : WM G ma M H) (k : Nat) {i : Nat} (hi : i < mLen k) (hz : mZ k = false) {v : Int32} (hv : M k i = v) (hdg : decode cc pc = .ok (.iaload, 1))
    (kk : W p l e R s m args below meth c H locs cells slots Q (F0 m (pc + 1) ls (.int v :: rest))) : W p l e R s m args below meth c H locs cells slots Q (F0 m pc ls (.int (nI i) :: .ref (ma k) :: rest)) := by
  have h := hM.2 k (by omega)
  simp only [mCls, hz] at h
  exact r1_ild hC hK.1 0 rfl h hi (mLen_lt k) hv hdg kk
theorem mr_zld (hC : CallFix p m c cc nL s args BIG RX9) (hK : gK G s) (hM : WM G ma M H) (k : Nat) {i : Nat} (hi : i < mLen k) (hz : mZ k = true) {v : Int32} (hv : M k i = v) (hdg : decode cc pc = .ok (.baload, 1))
    (kk : W p l e R s m args below meth c H locs cells slots Q (F0 m (pc + 1) ls (.int v :: rest))) : W p l e R s m args below meth c H locs cells slots Q (F0 m pc ls (.int (nI i) :: .ref (ma k) :: rest)) := by
  have h := hM.2 k (by omega)
  simp only [mCls, hz] at h
  exact r1_zld hC hK.1 1 rfl h hi (mLen_lt k) hv hdg kk
theorem WM_row (hI : mI ma) (hM : WM G ma M H) {k i : Nat} {x : Int32} (hk : 0 < mLen k) {H1 : Heap} (h : va_at G.1 gCl (ma k, .inl (mCls G k, (mLen k, .inl (upd (M k) i x)))) H1) (oq : ∀ q : Nat, q ≠ ma k → H1[q]? = H[q]?) : WM G ma (mset M k i x) H1 := by
  refine ⟨?_, fun j hj => ?_⟩
  · have e : mFs ma (mset M k i x) = mFs ma M := by
      unfold mFs
      apply List.map_congr_left
      intro j _
      unfold mFv
      by_cases hjk : j = k
      · subst hjk
        cases hl : mLen j with
        | zero => omega
        | succ n => rfl
      · rw [mset_n M i x hjk]
    rw [e]
    exact hM.1.kept (oq _ (fun q => hI.1 k hk q.symm))
  · by_cases hjk : j = k
    · subst hjk
      rw [mset_s]
      exact h
    · rw [mset_n M i x hjk]
      exact (hM.2 j hj).kept (oq _ (fun q => hjk (hI.2 j k hj hk q)))
theorem mr_ist (hC : CallFix p m c cc nL s args BIG RX9) (hK : gK G s) (hI : mI ma) (hM : WM G ma M H) {A : Nat → Prop} (hS : va_S A s.heap H locs) (k : Nat) (hA0 : A (ma k)) {i : Nat} (hi : i < mLen k) (hz : mZ k = false) {x : Int32} (hdg : decode cc pc = .ok (.iastore, 1))
    (kk : ∀ (H1 : Heap) (locs1 : List Loc), WM G ma (mset M k i x) H1 → va_S A s.heap H1 locs1 → W p l e R s m args below meth c H1 locs1 cells slots Q (F0 m (pc + 1) ls rest)) : W p l e R s m args below meth c H locs cells slots Q (F0 m pc ls (.int x :: .int (nI i) :: .ref (ma k) :: rest)) := by
  have h := hM.2 k (by omega)
  have hc : mCls G k = G.2.1 := by simp [mCls, hz]
  rw [hc] at h
  refine r1_ist hC hK.1 0 rfl h hi (mLen_lt k) hdg (fun H1 j e1 z oq => ?_)
  exact kk H1 _ (WM_row hI hM (by omega) (by rw [hc]; exact e1) oq) (hS.put z oq hA0)
theorem mr_zst (hC : CallFix p m c cc nL s args BIG RX9) (hK : gK G s) (hI : mI ma) (hM : WM G ma M H) {A : Nat → Prop} (hS : va_S A s.heap H locs) (k : Nat) (hA0 : A (ma k)) {i : Nat} (hi : i < mLen k) (hz : mZ k = true) {x : Int32} (b : Bool) (hx : x = bI b) (hdg : decode cc pc = .ok (.bastore, 1))
    (kk : ∀ (H1 : Heap) (locs1 : List Loc), WM G ma (mset M k i (bI b)) H1 → va_S A s.heap H1 locs1 → W p l e R s m args below meth c H1 locs1 cells slots Q (F0 m (pc + 1) ls rest)) : W p l e R s m args below meth c H locs cells slots Q (F0 m pc ls (.int x :: .int (nI i) :: .ref (ma k) :: rest)) := by
  subst hx
  have h := hM.2 k (by omega)
  have hc : mCls G k = G.2.2.1 := by simp [mCls, hz]
  rw [hc] at h
  refine r1_zst hC hK.1 1 rfl h hi (mLen_lt k) hdg (fun H1 j e1 z oq => ?_)
  exact kk H1 _ (WM_row hI hM (by omega) (by rw [hc]; exact e1) oq) (hS.put z oq hA0)
theorem mA_0 : mA ma (ma 0) := Or.inl rfl
theorem mA_k {k : Nat} (h : 0 < mLen k) : mA ma (ma k) := Or.inr ⟨k, h, rfl⟩
theorem mr_recv (hK : gK G s) (hM : WM G ma M H) : ∃ cell : Cell, H[ma 0]? = some cell ∧ cell.vm.isStatics = false ∧ s.vm.findClass RX9 = some cell.cls := va_at_cell hK.1 hM.1 rfl
theorem mr_B (hK : gK G s) (hM : WM G ma M H) : ∀ U : State, U.heap = H → s.WarmedH U.vm → mB G ma M U := fun U h hW => ⟨by rw [h]; exact hM, hK.warm hW⟩
end MR
