/-! THE CLASS'S WORLD BY ROWS: its fields are written -/
def jB (G : gG) (d0 mi : Nat) (Rf : Nat → Prop) (ja : Nat → Nat → Nat) (M : MS) (E : ES) : State → Prop := fun U => WJ G d0 Rf ja M E U.heap ∧ gX G d0 mi (jA Rf) U ∧ ∀ q, Rf q → q < U.heap.size
theorem jB_blind {G : gG} {d0 mi : Nat} {Rf : Nat → Prop} {ja : Nat → Nat → Nat} {M : MS} {E : ES} {av : List Value} : FrameBlind (va_Pc av (jB G d0 mi Rf ja M E)) := fun _ _ _ _ h => ⟨h.1, h.2.1, h.2.2.1.blind, h.2.2.2⟩
theorem jB_at {G : gG} {d0 mi : Nat} {Rf : Nat → Prop} {ja : Nat → Nat → Nat} {M : MS} {E : ES} {s : State} {H : Heap} {locs : List Loc} (hX : gX G d0 mi (jA Rf) s) (hRf : ∀ q, Rf q → q < s.heap.size) (hW : WJ G d0 Rf ja M E H) (hS : va_S (jA Rf) s.heap H locs) : ∀ U : State, U.heap = H → s.WarmedH U.vm → jB G d0 mi Rf ja M E U := fun U hU hV =>
  ⟨by rw [hU]; exact hW, hX.at hS (fun _ h => h) hU hV, fun q hq => by rw [hU]; exact Nat.lt_of_lt_of_le (hRf q hq) hS.1⟩
theorem jV_lt {M : MS} {k i : Nat} (h : jV M k i) : k < 10 := by
  match k, h with
  | 0, _ => decide
  | 1, _ => decide
  | 2, _ => decide
  | 3, _ => decide
  | 4, _ => decide
  | 5, _ => decide
  | 6, _ => decide
  | 7, _ => decide
  | 8, _ => decide
  | k + 9, h => exact h.elim
section WJS
variable {G : gG} {d0 : Nat} {Rf : Nat → Prop} {ja : Nat → Nat → Nat} {M M' : MS} {E E' : ES} {H H1 : Heap}
theorem WJ.ob (h : WJ G d0 Rf ja M E H) {k i : Nat} (hv : jV M k i) : va_at G.1 gCl (ja k i, .inr (k, jF ja M E k i)) H := h.1.ob hv
theorem WJ.recv {s : State} (h : WJ G d0 Rf ja M E H) (hK : gK G s) {k i : Nat} (hv : jV M k i) {q : vw_C} (hc : gCl[k]? = some q) : ∃ cell : Cell, H[ja k i]? = some cell ∧ cell.vm.isStatics = false ∧ s.vm.findClass q.1 = some cell.cls := va_at_cell hK.1 (h.ob hv) hc
theorem WJ.inj (h : WJ G d0 Rf ja M E H) {k i i' : Nat} (hv : jV M k i) (hv' : jV M k i') : ja k i = ja k i' ↔ i = i' := ⟨fun e => (h.1.inj hv hv' e).2, fun e => by rw [e]⟩
theorem WJ.cnt (h : WJ G d0 Rf ja M E H) : CNT M := h.2.1
theorem WJ.pt (h : WJ G d0 Rf ja M E H) : ptOK M := h.2.2.1
theorem WJ.cap (h : WJ G d0 Rf ja M E H) {i : Nat} (hi : jLV M i) : capOK i (jn M E i) (eC E i) := h.2.2.2.2 i hi
theorem WJ.el (h : WJ G d0 Rf ja M E H) {i j : Nat} (hi : jLV M i) (hj : j < jn M E i) : jV M (jk i) (je E i j) := h.2.2.2.1 i hi j hj
theorem WJ.kept (h : WJ G d0 Rf ja M E H) (hk : ∀ q : Nat, q < H.size → ¬ Rf q → H1[q]? = H[q]?) : WJ G d0 Rf ja M E H1 := ⟨h.1.kept hk, h.2⟩
theorem WJ.put (h : WJ G d0 Rf ja M E H) {k i : Nat} (hv : jV M k i) {fs : List Value} (e1 : va_at G.1 gCl (ja k i, .inr (k, fs)) H1) (oq : ∀ q : Nat, q ≠ ja k i → H1[q]? = H[q]?) (hF : jF ja M' E' k i = fs) (hF2 : ∀ k' i', jV M k' i' → (k' = k → i' ≠ i) → jF ja M' E' k' i' = jF ja M E k' i') (e2 : jV M' = jV M) (e3 : jLV M' = jLV M) (e4 : jn M' E' = jn M E) (e5 : eC E' = eC E) (e6 : jc ja E' = jc ja E) (hOK : jOK M' E') : WJ G d0 Rf ja M' E' H1 := by
  refine ⟨?_, hOK⟩
  rw [e2, e3, e4, e5, e6]
  exact h.1.put hv (jV_lt hv) e1 oq hF hF2
theorem jk_jo (i : Nat) : jo (jk i) := by
  unfold jo
  match i with
  | 0 => exact Or.inr (Or.inr (Or.inr (Or.inr (Or.inl rfl))))
  | 1 => exact Or.inr (Or.inr (Or.inr (Or.inr (Or.inr rfl))))
  | 2 => exact Or.inr (Or.inl rfl)
  | 3 => exact Or.inr (Or.inr (Or.inl rfl))
  | 4 => exact Or.inr (Or.inr (Or.inr (Or.inl rfl)))
  | 5 => exact Or.inr (Or.inr (Or.inr (Or.inl rfl)))
  | 6 => exact Or.inr (Or.inr (Or.inr (Or.inl rfl)))
  | i + 7 => exact Or.inl rfl
theorem WJ.elv (h : WJ G d0 Rf ja M E H) {i : Nat} (hi : jLV M i) : ∀ j, j < jn M E i → elV (jV M) ja (jc ja E i j) := fun j hj => ⟨jk i, je E i j, jk_jo i, h.el hi hj, rfl⟩
theorem ptOK_21 {x : Int32} {i : Nat} (h : ptOK M) (hx : okT M x) : ptOK (mset M 21 i x) := by
  obtain ⟨a1, a2, a3, a4, a5⟩ := h
  refine ⟨fun r hr => ⟨?_, (a1 r hr).2⟩, a2, a3, a4, a5⟩
  show okT M (mset M 21 i x 21 r)
  rw [mset_s]
  unfold upd
  split
  · exact hx
  · exact (a1 r hr).1
theorem ptOK_22 {x : Int32} {i : Nat} (h : ptOK M) (hx : okK M x) : ptOK (mset M 22 i x) := by
  obtain ⟨a1, a2, a3, a4, a5⟩ := h
  refine ⟨fun r hr => ⟨(a1 r hr).1, ?_⟩, a2, a3, a4, a5⟩
  show okK M (mset M 22 i x 22 r)
  rw [mset_s]
  unfold upd
  split
  · exact hx
  · exact (a1 r hr).2
theorem ptOK_14 {x : Int32} {i : Nat} (h : ptOK M) (hx : okN M x) : ptOK (mset M 14 i x) := by
  obtain ⟨a1, a2, a3, a4, a5⟩ := h
  refine ⟨a1, fun k hk => ?_, a3, a4, a5⟩
  show okN M (mset M 14 i x 14 k)
  rw [mset_s]
  unfold upd
  split
  · exact hx
  · exact a2 k hk
theorem jp_n (k : Nat) : jp ja k (-1) = none := if_pos rfl
theorem jp_s (k : Nat) {t : Nat} (h : t < 2147483648) : jp ja k (nI t) = some (ja k t) := by unfold jp; rw [if_neg (nI_m1 h), ix_nI h]
end WJS
section WP
variable {p : Program} {l : Launch} {e : Env} {R : Room} {s : State} {m : MethodId} {args : Array Value} {below : List Frame} {meth : Method} {c : Code} {H : Heap} {locs : List Loc} {cells slots : Nat} {Q : State → Prop}
variable {cc : ByteArray} {pc nL index : Nat} {ls : Array Slot} {rest : List Value} {own : String} {H0 : Heap}
variable {G : gG} {d0 mi : Nat} {Rf : Nat → Prop} {ja : Nat → Nat → Nat} {M : MS} {E : ES}
theorem jp_r28 (hC : CallFix p m c cc nL s args BIG own) (hK : gK G s) (hW : WJ G d0 Rf ja M E H) (hS : va_S (jA Rf) H0 H locs) {x : Int32} (hlink : Cond.fieldLink own index (TX0 2).1 (TX0 2).2.1 (TX0 2).2.2.1 ∈ BIG) (hdg : decode cc pc = .ok (.putfield index, 3))
    (kk : ∀ (H1 : Heap) (locs1 : List Loc), WJ G d0 Rf ja (mset M 28 0 x) E H1 → va_S (jA Rf) H0 H1 locs1 → W p l e R s m args below meth c H1 locs1 cells slots Q (F0 m (pc + 3) ls rest)) : W p l e R s m args below meth c H locs cells slots Q (F0 m pc ls (.int x :: .ref (ja 0 0) :: rest)) := by
  refine r2_put hC hK hS (hW.1.own (k := 0) (i := 0) (show jV M 0 0 from rfl)) (hW.ob (k := 0) (i := 0) (show jV M 0 0 from rfl)) lay_X0 tyX0 tyX0_ok nmX0 rfl 2 (by decide) hlink (fun x hx => hx) rfl rfl rfl (Nat.le_of_ble_eq_true rfl) hdg (fun H1 locs1 e1 z oq hS1 => kk H1 locs1 (hW.put (k := 0) (i := 0) (show jV M 0 0 from rfl) e1 oq ?_ (fun k9 i9 hv9 h9 => ?_) rfl rfl rfl rfl rfl ?_) hS1)
  · simp [jF, mset, upd, eS_, eR_, eD_, eS, eR]
  · match k9, hv9, h9 with
    | 0, hv9, h9 => exact absurd hv9 (h9 rfl)
    | 1, hv9, h9 => rfl
    | 2, hv9, h9 => rfl
    | 3, hv9, h9 => rfl
    | 4, hv9, h9 => rfl
    | 5, hv9, h9 => rfl
    | 6, hv9, h9 => rfl
    | 7, hv9, h9 => rfl
    | 8, hv9, h9 => rfl
    | q + 9, hv9, h9 => exact hv9.elim
  · exact hW.2
theorem jp_r29 (hC : CallFix p m c cc nL s args BIG own) (hK : gK G s) (hW : WJ G d0 Rf ja M E H) (hS : va_S (jA Rf) H0 H locs) {x : Int32} (hlink : Cond.fieldLink own index (TX0 3).1 (TX0 3).2.1 (TX0 3).2.2.1 ∈ BIG) (hdg : decode cc pc = .ok (.putfield index, 3))
    (kk : ∀ (H1 : Heap) (locs1 : List Loc), WJ G d0 Rf ja (mset M 29 0 x) E H1 → va_S (jA Rf) H0 H1 locs1 → W p l e R s m args below meth c H1 locs1 cells slots Q (F0 m (pc + 3) ls rest)) : W p l e R s m args below meth c H locs cells slots Q (F0 m pc ls (.int x :: .ref (ja 0 0) :: rest)) := by
  refine r2_put hC hK hS (hW.1.own (k := 0) (i := 0) (show jV M 0 0 from rfl)) (hW.ob (k := 0) (i := 0) (show jV M 0 0 from rfl)) lay_X0 tyX0 tyX0_ok nmX0 rfl 3 (by decide) hlink (fun x hx => hx) rfl rfl rfl (Nat.le_of_ble_eq_true rfl) hdg (fun H1 locs1 e1 z oq hS1 => kk H1 locs1 (hW.put (k := 0) (i := 0) (show jV M 0 0 from rfl) e1 oq ?_ (fun k9 i9 hv9 h9 => ?_) rfl rfl rfl rfl rfl ?_) hS1)
  · simp [jF, mset, upd, eS_, eR_, eD_, eS, eR]
  · match k9, hv9, h9 with
    | 0, hv9, h9 => exact absurd hv9 (h9 rfl)
    | 1, hv9, h9 => rfl
    | 2, hv9, h9 => rfl
    | 3, hv9, h9 => rfl
    | 4, hv9, h9 => rfl
    | 5, hv9, h9 => rfl
    | 6, hv9, h9 => rfl
    | 7, hv9, h9 => rfl
    | 8, hv9, h9 => rfl
    | q + 9, hv9, h9 => exact hv9.elim
  · exact hW.2
theorem jp_r30 (hC : CallFix p m c cc nL s args BIG own) (hK : gK G s) (hW : WJ G d0 Rf ja M E H) (hS : va_S (jA Rf) H0 H locs) {x : Int32} (hlink : Cond.fieldLink own index (TX0 4).1 (TX0 4).2.1 (TX0 4).2.2.1 ∈ BIG) (hdg : decode cc pc = .ok (.putfield index, 3))
    (kk : ∀ (H1 : Heap) (locs1 : List Loc), WJ G d0 Rf ja (mset M 30 0 x) E H1 → va_S (jA Rf) H0 H1 locs1 → W p l e R s m args below meth c H1 locs1 cells slots Q (F0 m (pc + 3) ls rest)) : W p l e R s m args below meth c H locs cells slots Q (F0 m pc ls (.int x :: .ref (ja 0 0) :: rest)) := by
  refine r2_put hC hK hS (hW.1.own (k := 0) (i := 0) (show jV M 0 0 from rfl)) (hW.ob (k := 0) (i := 0) (show jV M 0 0 from rfl)) lay_X0 tyX0 tyX0_ok nmX0 rfl 4 (by decide) hlink (fun x hx => hx) rfl rfl rfl (Nat.le_of_ble_eq_true rfl) hdg (fun H1 locs1 e1 z oq hS1 => kk H1 locs1 (hW.put (k := 0) (i := 0) (show jV M 0 0 from rfl) e1 oq ?_ (fun k9 i9 hv9 h9 => ?_) rfl rfl rfl rfl rfl ?_) hS1)
  · simp [jF, mset, upd, eS_, eR_, eD_, eS, eR]
  · match k9, hv9, h9 with
    | 0, hv9, h9 => exact absurd hv9 (h9 rfl)
    | 1, hv9, h9 => rfl
    | 2, hv9, h9 => rfl
    | 3, hv9, h9 => rfl
    | 4, hv9, h9 => rfl
    | 5, hv9, h9 => rfl
    | 6, hv9, h9 => rfl
    | 7, hv9, h9 => rfl
    | 8, hv9, h9 => rfl
    | q + 9, hv9, h9 => exact hv9.elim
  · exact hW.2
theorem jp_r31 (hC : CallFix p m c cc nL s args BIG own) (hK : gK G s) (hW : WJ G d0 Rf ja M E H) (hS : va_S (jA Rf) H0 H locs) {x : Int32} (hlink : Cond.fieldLink own index (TX0 5).1 (TX0 5).2.1 (TX0 5).2.2.1 ∈ BIG) (hdg : decode cc pc = .ok (.putfield index, 3))
    (kk : ∀ (H1 : Heap) (locs1 : List Loc), WJ G d0 Rf ja (mset M 31 0 x) E H1 → va_S (jA Rf) H0 H1 locs1 → W p l e R s m args below meth c H1 locs1 cells slots Q (F0 m (pc + 3) ls rest)) : W p l e R s m args below meth c H locs cells slots Q (F0 m pc ls (.int x :: .ref (ja 0 0) :: rest)) := by
  refine r2_put hC hK hS (hW.1.own (k := 0) (i := 0) (show jV M 0 0 from rfl)) (hW.ob (k := 0) (i := 0) (show jV M 0 0 from rfl)) lay_X0 tyX0 tyX0_ok nmX0 rfl 5 (by decide) hlink (fun x hx => hx) rfl rfl rfl (Nat.le_of_ble_eq_true rfl) hdg (fun H1 locs1 e1 z oq hS1 => kk H1 locs1 (hW.put (k := 0) (i := 0) (show jV M 0 0 from rfl) e1 oq ?_ (fun k9 i9 hv9 h9 => ?_) rfl rfl rfl rfl rfl ?_) hS1)
  · simp [jF, mset, upd, eS_, eR_, eD_, eS, eR]
  · match k9, hv9, h9 with
    | 0, hv9, h9 => exact absurd hv9 (h9 rfl)
    | 1, hv9, h9 => rfl
    | 2, hv9, h9 => rfl
    | 3, hv9, h9 => rfl
    | 4, hv9, h9 => rfl
    | 5, hv9, h9 => rfl
    | 6, hv9, h9 => rfl
    | 7, hv9, h9 => rfl
    | 8, hv9, h9 => rfl
    | q + 9, hv9, h9 => exact hv9.elim
  · exact hW.2
theorem jp_r1 (hC : CallFix p m c cc nL s args BIG own) (hK : gK G s) (hW : WJ G d0 Rf ja M E H) (hS : va_S (jA Rf) H0 H locs) {x : Int32} (hlink : Cond.fieldLink own index (TX8 5).1 (TX8 5).2.1 (TX8 5).2.2.1 ∈ BIG) (hdg : decode cc pc = .ok (.putfield index, 3))
    (kk : ∀ (H1 : Heap) (locs1 : List Loc), WJ G d0 Rf ja (mset M 1 0 x) E H1 → va_S (jA Rf) H0 H1 locs1 → W p l e R s m args below meth c H1 locs1 cells slots Q (F0 m (pc + 3) ls rest)) : W p l e R s m args below meth c H locs cells slots Q (F0 m pc ls (.int x :: .ref (ja 8 0) :: rest)) := by
  refine r2_put hC hK hS (hW.1.own (k := 8) (i := 0) (show jV M 8 0 from rfl)) (hW.ob (k := 8) (i := 0) (show jV M 8 0 from rfl)) lay_X8 tyX8 tyX8_ok nmX8 rfl 5 (by decide) hlink (fun x hx => hx) rfl rfl rfl (Nat.le_of_ble_eq_true rfl) hdg (fun H1 locs1 e1 z oq hS1 => kk H1 locs1 (hW.put (k := 8) (i := 0) (show jV M 8 0 from rfl) e1 oq ?_ (fun k9 i9 hv9 h9 => ?_) rfl rfl rfl rfl rfl ?_) hS1)
  · simp [jF, mset, upd, eS_, eR_, eD_, eS, eR]
  · match k9, hv9, h9 with
    | 0, hv9, h9 => rfl
    | 1, hv9, h9 => rfl
    | 2, hv9, h9 => rfl
    | 3, hv9, h9 => rfl
    | 4, hv9, h9 => rfl
    | 5, hv9, h9 => rfl
    | 6, hv9, h9 => rfl
    | 7, hv9, h9 => rfl
    | 8, hv9, h9 => exact absurd hv9 (h9 rfl)
    | q + 9, hv9, h9 => exact hv9.elim
  · exact hW.2
theorem jp_r13 (hC : CallFix p m c cc nL s args BIG own) (hK : gK G s) (hW : WJ G d0 Rf ja M E H) (hS : va_S (jA Rf) H0 H locs) {i : Nat} (hv : VL M i = true) {x : Int32} (hlink : Cond.fieldLink own index (TX2 2).1 (TX2 2).2.1 (TX2 2).2.2.1 ∈ BIG) (hdg : decode cc pc = .ok (.putfield index, 3))
    (kk : ∀ (H1 : Heap) (locs1 : List Loc), WJ G d0 Rf ja (mset M 13 i x) E H1 → va_S (jA Rf) H0 H1 locs1 → W p l e R s m args below meth c H1 locs1 cells slots Q (F0 m (pc + 3) ls rest)) : W p l e R s m args below meth c H locs cells slots Q (F0 m pc ls (.int x :: .ref (ja 2 i) :: rest)) := by
  refine r2_put hC hK hS (hW.1.own (k := 2) (i := i) (show jV M 2 i from hv)) (hW.ob (k := 2) (i := i) (show jV M 2 i from hv)) lay_X2 tyX2 tyX2_ok nmX2 rfl 2 (by decide) hlink (fun x hx => hx) rfl rfl rfl (Nat.le_of_ble_eq_true rfl) hdg (fun H1 locs1 e1 z oq hS1 => kk H1 locs1 (hW.put (k := 2) (i := i) (show jV M 2 i from hv) e1 oq ?_ (fun k9 i9 hv9 h9 => ?_) rfl rfl rfl rfl rfl ?_) hS1)
  · simp [jF, mset, upd, eS_, eR_, eD_, eS, eR]
  · match k9, hv9, h9 with
    | 0, hv9, h9 => rfl
    | 1, hv9, h9 => rfl
    | 2, hv9, h9 => have h8 := h9 rfl; simp [jF, mset, upd, eS_, eR_, eD_, eS, eR, h8]
    | 3, hv9, h9 => rfl
    | 4, hv9, h9 => rfl
    | 5, hv9, h9 => rfl
    | 6, hv9, h9 => rfl
    | 7, hv9, h9 => rfl
    | 8, hv9, h9 => rfl
    | q + 9, hv9, h9 => exact hv9.elim
  · exact hW.2
theorem jp_r18 (hC : CallFix p m c cc nL s args BIG own) (hK : gK G s) (hW : WJ G d0 Rf ja M E H) (hS : va_S (jA Rf) H0 H locs) {i : Nat} (hv : i < nR M) {x : Int32} (hlink : Cond.fieldLink own index (TX5 2).1 (TX5 2).2.1 (TX5 2).2.2.1 ∈ BIG) (hdg : decode cc pc = .ok (.putfield index, 3))
    (kk : ∀ (H1 : Heap) (locs1 : List Loc), WJ G d0 Rf ja (mset M 18 i x) E H1 → va_S (jA Rf) H0 H1 locs1 → W p l e R s m args below meth c H1 locs1 cells slots Q (F0 m (pc + 3) ls rest)) : W p l e R s m args below meth c H locs cells slots Q (F0 m pc ls (.int x :: .ref (ja 5 i) :: rest)) := by
  refine r2_put hC hK hS (hW.1.own (k := 5) (i := i) (show jV M 5 i from hv)) (hW.ob (k := 5) (i := i) (show jV M 5 i from hv)) lay_X5 tyX5 tyX5_ok nmX5 rfl 2 (by decide) hlink (fun x hx => hx) rfl rfl rfl (Nat.le_of_ble_eq_true rfl) hdg (fun H1 locs1 e1 z oq hS1 => kk H1 locs1 (hW.put (k := 5) (i := i) (show jV M 5 i from hv) e1 oq ?_ (fun k9 i9 hv9 h9 => ?_) rfl rfl rfl rfl rfl ?_) hS1)
  · simp [jF, mset, upd, eS_, eR_, eD_, eS, eR]
  · match k9, hv9, h9 with
    | 0, hv9, h9 => rfl
    | 1, hv9, h9 => rfl
    | 2, hv9, h9 => rfl
    | 3, hv9, h9 => rfl
    | 4, hv9, h9 => rfl
    | 5, hv9, h9 => have h8 := h9 rfl; simp [jF, mset, upd, eS_, eR_, eD_, eS, eR, h8]
    | 6, hv9, h9 => rfl
    | 7, hv9, h9 => rfl
    | 8, hv9, h9 => rfl
    | q + 9, hv9, h9 => exact hv9.elim
  · exact hW.2
theorem jp_r20 (hC : CallFix p m c cc nL s args BIG own) (hK : gK G s) (hW : WJ G d0 Rf ja M E H) (hS : va_S (jA Rf) H0 H locs) {i : Nat} (hv : i < nR M) {x : Int32} (hlink : Cond.fieldLink own index (TX5 3).1 (TX5 3).2.1 (TX5 3).2.2.1 ∈ BIG) (hdg : decode cc pc = .ok (.putfield index, 3))
    (kk : ∀ (H1 : Heap) (locs1 : List Loc), WJ G d0 Rf ja (mset M 20 i x) E H1 → va_S (jA Rf) H0 H1 locs1 → W p l e R s m args below meth c H1 locs1 cells slots Q (F0 m (pc + 3) ls rest)) : W p l e R s m args below meth c H locs cells slots Q (F0 m pc ls (.int x :: .ref (ja 5 i) :: rest)) := by
  refine r2_put hC hK hS (hW.1.own (k := 5) (i := i) (show jV M 5 i from hv)) (hW.ob (k := 5) (i := i) (show jV M 5 i from hv)) lay_X5 tyX5 tyX5_ok nmX5 rfl 3 (by decide) hlink (fun x hx => hx) rfl rfl rfl (Nat.le_of_ble_eq_true rfl) hdg (fun H1 locs1 e1 z oq hS1 => kk H1 locs1 (hW.put (k := 5) (i := i) (show jV M 5 i from hv) e1 oq ?_ (fun k9 i9 hv9 h9 => ?_) rfl rfl rfl rfl rfl ?_) hS1)
  · simp [jF, mset, upd, eS_, eR_, eD_, eS, eR]
  · match k9, hv9, h9 with
    | 0, hv9, h9 => rfl
    | 1, hv9, h9 => rfl
    | 2, hv9, h9 => rfl
    | 3, hv9, h9 => rfl
    | 4, hv9, h9 => rfl
    | 5, hv9, h9 => have h8 := h9 rfl; simp [jF, mset, upd, eS_, eR_, eD_, eS, eR, h8]
    | 6, hv9, h9 => rfl
    | 7, hv9, h9 => rfl
    | 8, hv9, h9 => rfl
    | q + 9, hv9, h9 => exact hv9.elim
  · exact hW.2
theorem jp_r24 (hC : CallFix p m c cc nL s args BIG own) (hK : gK G s) (hW : WJ G d0 Rf ja M E H) (hS : va_S (jA Rf) H0 H locs) {i : Nat} (hv : i < nR M) {x : Int32} (hlink : Cond.fieldLink own index (TX5 6).1 (TX5 6).2.1 (TX5 6).2.2.1 ∈ BIG) (hdg : decode cc pc = .ok (.putfield index, 3))
    (kk : ∀ (H1 : Heap) (locs1 : List Loc), WJ G d0 Rf ja (mset M 24 i x) E H1 → va_S (jA Rf) H0 H1 locs1 → W p l e R s m args below meth c H1 locs1 cells slots Q (F0 m (pc + 3) ls rest)) : W p l e R s m args below meth c H locs cells slots Q (F0 m pc ls (.int x :: .ref (ja 5 i) :: rest)) := by
  refine r2_put hC hK hS (hW.1.own (k := 5) (i := i) (show jV M 5 i from hv)) (hW.ob (k := 5) (i := i) (show jV M 5 i from hv)) lay_X5 tyX5 tyX5_ok nmX5 rfl 6 (by decide) hlink (fun x hx => hx) rfl rfl rfl (Nat.le_of_ble_eq_true rfl) hdg (fun H1 locs1 e1 z oq hS1 => kk H1 locs1 (hW.put (k := 5) (i := i) (show jV M 5 i from hv) e1 oq ?_ (fun k9 i9 hv9 h9 => ?_) rfl rfl rfl rfl rfl ?_) hS1)
  · simp [jF, mset, upd, eS_, eR_, eD_, eS, eR]
  · match k9, hv9, h9 with
    | 0, hv9, h9 => rfl
    | 1, hv9, h9 => rfl
    | 2, hv9, h9 => rfl
    | 3, hv9, h9 => rfl
    | 4, hv9, h9 => rfl
    | 5, hv9, h9 => have h8 := h9 rfl; simp [jF, mset, upd, eS_, eR_, eD_, eS, eR, h8]
    | 6, hv9, h9 => rfl
    | 7, hv9, h9 => rfl
    | 8, hv9, h9 => rfl
    | q + 9, hv9, h9 => exact hv9.elim
  · exact hW.2
theorem jp_r23 (hC : CallFix p m c cc nL s args BIG own) (hK : gK G s) (hW : WJ G d0 Rf ja M E H) (hS : va_S (jA Rf) H0 H locs) {i : Nat} (hv : i < nR M) {x : Int32} (hlink : Cond.fieldLink own index (TX5 8).1 (TX5 8).2.1 (TX5 8).2.2.1 ∈ BIG) (hdg : decode cc pc = .ok (.putfield index, 3))
    (kk : ∀ (H1 : Heap) (locs1 : List Loc), WJ G d0 Rf ja (mset M 23 i x) E H1 → va_S (jA Rf) H0 H1 locs1 → W p l e R s m args below meth c H1 locs1 cells slots Q (F0 m (pc + 3) ls rest)) : W p l e R s m args below meth c H locs cells slots Q (F0 m pc ls (.int x :: .ref (ja 5 i) :: rest)) := by
  refine r2_put hC hK hS (hW.1.own (k := 5) (i := i) (show jV M 5 i from hv)) (hW.ob (k := 5) (i := i) (show jV M 5 i from hv)) lay_X5 tyX5 tyX5_ok nmX5 rfl 8 (by decide) hlink (fun x hx => hx) rfl rfl rfl (Nat.le_of_ble_eq_true rfl) hdg (fun H1 locs1 e1 z oq hS1 => kk H1 locs1 (hW.put (k := 5) (i := i) (show jV M 5 i from hv) e1 oq ?_ (fun k9 i9 hv9 h9 => ?_) rfl rfl rfl rfl rfl ?_) hS1)
  · simp [jF, mset, upd, eS_, eR_, eD_, eS, eR]
  · match k9, hv9, h9 with
    | 0, hv9, h9 => rfl
    | 1, hv9, h9 => rfl
    | 2, hv9, h9 => rfl
    | 3, hv9, h9 => rfl
    | 4, hv9, h9 => rfl
    | 5, hv9, h9 => have h8 := h9 rfl; simp [jF, mset, upd, eS_, eR_, eD_, eS, eR, h8]
    | 6, hv9, h9 => rfl
    | 7, hv9, h9 => rfl
    | 8, hv9, h9 => rfl
    | q + 9, hv9, h9 => exact hv9.elim
  · exact hW.2
theorem jp_r9 (hC : CallFix p m c cc nL s args BIG own) (hK : gK G s) (hW : WJ G d0 Rf ja M E H) (hS : va_S (jA Rf) H0 H locs) {i : Nat} (hv : i < nT M) {x : Int32} (hlink : Cond.fieldLink own index (TX7 3).1 (TX7 3).2.1 (TX7 3).2.2.1 ∈ BIG) (hdg : decode cc pc = .ok (.putfield index, 3))
    (kk : ∀ (H1 : Heap) (locs1 : List Loc), WJ G d0 Rf ja (mset M 9 i x) E H1 → va_S (jA Rf) H0 H1 locs1 → W p l e R s m args below meth c H1 locs1 cells slots Q (F0 m (pc + 3) ls rest)) : W p l e R s m args below meth c H locs cells slots Q (F0 m pc ls (.int x :: .ref (ja 7 i) :: rest)) := by
  refine r2_put hC hK hS (hW.1.own (k := 7) (i := i) (show jV M 7 i from hv)) (hW.ob (k := 7) (i := i) (show jV M 7 i from hv)) lay_X7 tyX7 tyX7_ok nmX7 rfl 3 (by decide) hlink (fun x hx => hx) rfl rfl rfl (Nat.le_of_ble_eq_true rfl) hdg (fun H1 locs1 e1 z oq hS1 => kk H1 locs1 (hW.put (k := 7) (i := i) (show jV M 7 i from hv) e1 oq ?_ (fun k9 i9 hv9 h9 => ?_) rfl rfl rfl rfl rfl ?_) hS1)
  · simp [jF, mset, upd, eS_, eR_, eD_, eS, eR]
  · match k9, hv9, h9 with
    | 0, hv9, h9 => rfl
    | 1, hv9, h9 => rfl
    | 2, hv9, h9 => rfl
    | 3, hv9, h9 => rfl
    | 4, hv9, h9 => rfl
    | 5, hv9, h9 => rfl
    | 6, hv9, h9 => rfl
    | 7, hv9, h9 => have h8 := h9 rfl; simp [jF, mset, upd, eS_, eR_, eD_, eS, eR, h8]
    | 8, hv9, h9 => rfl
    | q + 9, hv9, h9 => exact hv9.elim
  · exact hW.2
theorem jp_r21n (hC : CallFix p m c cc nL s args BIG own) (hK : gK G s) (hW : WJ G d0 Rf ja M E H) (hS : va_S (jA Rf) H0 H locs) {i : Nat} (hv : i < nR M) (hlink : Cond.fieldLink own index (TX5 4).1 (TX5 4).2.1 (TX5 4).2.2.1 ∈ BIG) (hdg : decode cc pc = .ok (.putfield index, 3))
    (kk : ∀ (H1 : Heap) (locs1 : List Loc), WJ G d0 Rf ja (mset M 21 i (-1)) E H1 → va_S (jA Rf) H0 H1 locs1 → W p l e R s m args below meth c H1 locs1 cells slots Q (F0 m (pc + 3) ls rest)) : W p l e R s m args below meth c H locs cells slots Q (F0 m pc ls (.null :: .ref (ja 5 i) :: rest)) := by
  refine r2_put hC hK hS (hW.1.own (k := 5) (i := i) (show jV M 5 i from hv)) (hW.ob (k := 5) (i := i) (show jV M 5 i from hv)) lay_X5 tyX5 tyX5_ok nmX5 rfl 4 (by decide) hlink (fun x hx => hx) rfl rfl rfl (Nat.le_of_ble_eq_true rfl) hdg (fun H1 locs1 e1 z oq hS1 => kk H1 locs1 (hW.put (k := 5) (i := i) (show jV M 5 i from hv) e1 oq ?_ (fun k9 i9 hv9 h9 => ?_) rfl rfl rfl rfl rfl ?_) hS1)
  · show ([.int (nI i), .int (M 19 i), .int (M 18 i), .int (M 20 i), va_rf (jp ja 7 (upd (M 21) i (-1) i)), va_rf (jp ja 2 (M 22 i)), .int (M 24 i), .int (eS E i), .int (M 23 i)] : List Value) = _; rw [upd_s, jp_n]; rfl
  · match k9, hv9, h9 with
    | 0, hv9, h9 => simp [jF, mset]
    | 1, hv9, h9 => simp [jF, mset]
    | 2, hv9, h9 => simp [jF, mset]
    | 3, hv9, h9 => simp [jF, mset]
    | 4, hv9, h9 => simp [jF, mset]
    | 5, hv9, h9 => have h8 := h9 rfl; show ([.int (nI i9), .int (M 19 i9), .int (M 18 i9), .int (M 20 i9), va_rf (jp ja 7 (upd (M 21) i (-1) i9)), va_rf (jp ja 2 (M 22 i9)), .int (M 24 i9), .int (eS E i9), .int (M 23 i9)] : List Value) = _; rw [upd_n _ _ h8]; rfl
    | 6, hv9, h9 => simp [jF, mset]
    | 7, hv9, h9 => simp [jF, mset]
    | 8, hv9, h9 => simp [jF, mset]
    | q + 9, hv9, h9 => exact hv9.elim
  · exact ⟨hW.2.1, ptOK_21 hW.2.2.1 (Or.inl rfl), hW.2.2.2⟩
theorem jp_r21 (hC : CallFix p m c cc nL s args BIG own) (hK : gK G s) (hW : WJ G d0 Rf ja M E H) (hS : va_S (jA Rf) H0 H locs) {i : Nat} (hv : i < nR M) {t : Nat} (ht : t < nT M) (ht2 : t < 2147483648) (hlink : Cond.fieldLink own index (TX5 4).1 (TX5 4).2.1 (TX5 4).2.2.1 ∈ BIG) (hdg : decode cc pc = .ok (.putfield index, 3))
    (kk : ∀ (H1 : Heap) (locs1 : List Loc), WJ G d0 Rf ja (mset M 21 i (nI t)) E H1 → va_S (jA Rf) H0 H1 locs1 → W p l e R s m args below meth c H1 locs1 cells slots Q (F0 m (pc + 3) ls rest)) : W p l e R s m args below meth c H locs cells slots Q (F0 m pc ls (.ref (ja 7 t) :: .ref (ja 5 i) :: rest)) := by
  refine r2_put hC hK hS (hW.1.own (k := 5) (i := i) (show jV M 5 i from hv)) (hW.ob (k := 5) (i := i) (show jV M 5 i from hv)) lay_X5 tyX5 tyX5_ok nmX5 rfl 4 (by decide) hlink (fun x hx => hx) rfl rfl rfl (Nat.le_of_ble_eq_true rfl) hdg (fun H1 locs1 e1 z oq hS1 => kk H1 locs1 (hW.put (k := 5) (i := i) (show jV M 5 i from hv) e1 oq ?_ (fun k9 i9 hv9 h9 => ?_) rfl rfl rfl rfl rfl ?_) hS1)
  · show ([.int (nI i), .int (M 19 i), .int (M 18 i), .int (M 20 i), va_rf (jp ja 7 (upd (M 21) i (nI t) i)), va_rf (jp ja 2 (M 22 i)), .int (M 24 i), .int (eS E i), .int (M 23 i)] : List Value) = _; rw [upd_s, jp_s 7 ht2]; rfl
  · match k9, hv9, h9 with
    | 0, hv9, h9 => simp [jF, mset]
    | 1, hv9, h9 => simp [jF, mset]
    | 2, hv9, h9 => simp [jF, mset]
    | 3, hv9, h9 => simp [jF, mset]
    | 4, hv9, h9 => simp [jF, mset]
    | 5, hv9, h9 => have h8 := h9 rfl; show ([.int (nI i9), .int (M 19 i9), .int (M 18 i9), .int (M 20 i9), va_rf (jp ja 7 (upd (M 21) i (nI t) i9)), va_rf (jp ja 2 (M 22 i9)), .int (M 24 i9), .int (eS E i9), .int (M 23 i9)] : List Value) = _; rw [upd_n _ _ h8]; rfl
    | 6, hv9, h9 => simp [jF, mset]
    | 7, hv9, h9 => simp [jF, mset]
    | 8, hv9, h9 => simp [jF, mset]
    | q + 9, hv9, h9 => exact hv9.elim
  · exact ⟨hW.2.1, ptOK_21 hW.2.2.1 (Or.inr ⟨t, ht, rfl⟩), hW.2.2.2⟩
theorem jp_r22n (hC : CallFix p m c cc nL s args BIG own) (hK : gK G s) (hW : WJ G d0 Rf ja M E H) (hS : va_S (jA Rf) H0 H locs) {i : Nat} (hv : i < nR M) (hlink : Cond.fieldLink own index (TX5 5).1 (TX5 5).2.1 (TX5 5).2.2.1 ∈ BIG) (hdg : decode cc pc = .ok (.putfield index, 3))
    (kk : ∀ (H1 : Heap) (locs1 : List Loc), WJ G d0 Rf ja (mset M 22 i (-1)) E H1 → va_S (jA Rf) H0 H1 locs1 → W p l e R s m args below meth c H1 locs1 cells slots Q (F0 m (pc + 3) ls rest)) : W p l e R s m args below meth c H locs cells slots Q (F0 m pc ls (.null :: .ref (ja 5 i) :: rest)) := by
  refine r2_put hC hK hS (hW.1.own (k := 5) (i := i) (show jV M 5 i from hv)) (hW.ob (k := 5) (i := i) (show jV M 5 i from hv)) lay_X5 tyX5 tyX5_ok nmX5 rfl 5 (by decide) hlink (fun x hx => hx) rfl rfl rfl (Nat.le_of_ble_eq_true rfl) hdg (fun H1 locs1 e1 z oq hS1 => kk H1 locs1 (hW.put (k := 5) (i := i) (show jV M 5 i from hv) e1 oq ?_ (fun k9 i9 hv9 h9 => ?_) rfl rfl rfl rfl rfl ?_) hS1)
  · show ([.int (nI i), .int (M 19 i), .int (M 18 i), .int (M 20 i), va_rf (jp ja 7 (M 21 i)), va_rf (jp ja 2 (upd (M 22) i (-1) i)), .int (M 24 i), .int (eS E i), .int (M 23 i)] : List Value) = _; rw [upd_s, jp_n]; rfl
  · match k9, hv9, h9 with
    | 0, hv9, h9 => simp [jF, mset]
    | 1, hv9, h9 => simp [jF, mset]
    | 2, hv9, h9 => simp [jF, mset]
    | 3, hv9, h9 => simp [jF, mset]
    | 4, hv9, h9 => simp [jF, mset]
    | 5, hv9, h9 => have h8 := h9 rfl; show ([.int (nI i9), .int (M 19 i9), .int (M 18 i9), .int (M 20 i9), va_rf (jp ja 7 (M 21 i9)), va_rf (jp ja 2 (upd (M 22) i (-1) i9)), .int (M 24 i9), .int (eS E i9), .int (M 23 i9)] : List Value) = _; rw [upd_n _ _ h8]; rfl
    | 6, hv9, h9 => simp [jF, mset]
    | 7, hv9, h9 => simp [jF, mset]
    | 8, hv9, h9 => simp [jF, mset]
    | q + 9, hv9, h9 => exact hv9.elim
  · exact ⟨hW.2.1, ptOK_22 hW.2.2.1 (Or.inl rfl), hW.2.2.2⟩
theorem jp_r22 (hC : CallFix p m c cc nL s args BIG own) (hK : gK G s) (hW : WJ G d0 Rf ja M E H) (hS : va_S (jA Rf) H0 H locs) {i : Nat} (hv : i < nR M) {t : Nat} (ht : VL M t = true) (ht2 : t < 2147483648) (hlink : Cond.fieldLink own index (TX5 5).1 (TX5 5).2.1 (TX5 5).2.2.1 ∈ BIG) (hdg : decode cc pc = .ok (.putfield index, 3))
    (kk : ∀ (H1 : Heap) (locs1 : List Loc), WJ G d0 Rf ja (mset M 22 i (nI t)) E H1 → va_S (jA Rf) H0 H1 locs1 → W p l e R s m args below meth c H1 locs1 cells slots Q (F0 m (pc + 3) ls rest)) : W p l e R s m args below meth c H locs cells slots Q (F0 m pc ls (.ref (ja 2 t) :: .ref (ja 5 i) :: rest)) := by
  refine r2_put hC hK hS (hW.1.own (k := 5) (i := i) (show jV M 5 i from hv)) (hW.ob (k := 5) (i := i) (show jV M 5 i from hv)) lay_X5 tyX5 tyX5_ok nmX5 rfl 5 (by decide) hlink (fun x hx => hx) rfl rfl rfl (Nat.le_of_ble_eq_true rfl) hdg (fun H1 locs1 e1 z oq hS1 => kk H1 locs1 (hW.put (k := 5) (i := i) (show jV M 5 i from hv) e1 oq ?_ (fun k9 i9 hv9 h9 => ?_) rfl rfl rfl rfl rfl ?_) hS1)
  · show ([.int (nI i), .int (M 19 i), .int (M 18 i), .int (M 20 i), va_rf (jp ja 7 (M 21 i)), va_rf (jp ja 2 (upd (M 22) i (nI t) i)), .int (M 24 i), .int (eS E i), .int (M 23 i)] : List Value) = _; rw [upd_s, jp_s 2 ht2]; rfl
  · match k9, hv9, h9 with
    | 0, hv9, h9 => simp [jF, mset]
    | 1, hv9, h9 => simp [jF, mset]
    | 2, hv9, h9 => simp [jF, mset]
    | 3, hv9, h9 => simp [jF, mset]
    | 4, hv9, h9 => simp [jF, mset]
    | 5, hv9, h9 => have h8 := h9 rfl; show ([.int (nI i9), .int (M 19 i9), .int (M 18 i9), .int (M 20 i9), va_rf (jp ja 7 (M 21 i9)), va_rf (jp ja 2 (upd (M 22) i (nI t) i9)), .int (M 24 i9), .int (eS E i9), .int (M 23 i9)] : List Value) = _; rw [upd_n _ _ h8]; rfl
    | 6, hv9, h9 => simp [jF, mset]
    | 7, hv9, h9 => simp [jF, mset]
    | 8, hv9, h9 => simp [jF, mset]
    | q + 9, hv9, h9 => exact hv9.elim
  · exact ⟨hW.2.1, ptOK_22 hW.2.2.1 (Or.inr ⟨t, ht, rfl⟩), hW.2.2.2⟩
theorem jp_r14n (hC : CallFix p m c cc nL s args BIG own) (hK : gK G s) (hW : WJ G d0 Rf ja M E H) (hS : va_S (jA Rf) H0 H locs) {i : Nat} (hv : VL M i = true) (hlink : Cond.fieldLink own index (TX2 3).1 (TX2 3).2.1 (TX2 3).2.2.1 ∈ BIG) (hdg : decode cc pc = .ok (.putfield index, 3))
    (kk : ∀ (H1 : Heap) (locs1 : List Loc), WJ G d0 Rf ja (mset M 14 i (-1)) E H1 → va_S (jA Rf) H0 H1 locs1 → W p l e R s m args below meth c H1 locs1 cells slots Q (F0 m (pc + 3) ls rest)) : W p l e R s m args below meth c H locs cells slots Q (F0 m pc ls (.null :: .ref (ja 2 i) :: rest)) := by
  refine r2_put hC hK hS (hW.1.own (k := 2) (i := i) (show jV M 2 i from hv)) (hW.ob (k := 2) (i := i) (show jV M 2 i from hv)) lay_X2 tyX2 tyX2_ok nmX2 rfl 3 (by decide) hlink (fun x hx => hx) rfl rfl rfl (Nat.le_of_ble_eq_true rfl) hdg (fun H1 locs1 e1 z oq hS1 => kk H1 locs1 (hW.put (k := 2) (i := i) (show jV M 2 i from hv) e1 oq ?_ (fun k9 i9 hv9 h9 => ?_) rfl rfl rfl rfl rfl ?_) hS1)
  · show ([.ref (ja 3 (i / 3)), .int (M 12 i), .int (M 13 i), va_rf (jp ja 6 (upd (M 14) i (-1) i))] : List Value) = _; rw [upd_s, jp_n]; rfl
  · match k9, hv9, h9 with
    | 0, hv9, h9 => simp [jF, mset]
    | 1, hv9, h9 => simp [jF, mset]
    | 2, hv9, h9 => have h8 := h9 rfl; show ([.ref (ja 3 (i9 / 3)), .int (M 12 i9), .int (M 13 i9), va_rf (jp ja 6 (upd (M 14) i (-1) i9))] : List Value) = _; rw [upd_n _ _ h8]; rfl
    | 3, hv9, h9 => simp [jF, mset]
    | 4, hv9, h9 => simp [jF, mset]
    | 5, hv9, h9 => simp [jF, mset]
    | 6, hv9, h9 => simp [jF, mset]
    | 7, hv9, h9 => simp [jF, mset]
    | 8, hv9, h9 => simp [jF, mset]
    | q + 9, hv9, h9 => exact hv9.elim
  · exact ⟨hW.2.1, ptOK_14 hW.2.2.1 (Or.inl rfl), hW.2.2.2⟩
theorem jp_r14 (hC : CallFix p m c cc nL s args BIG own) (hK : gK G s) (hW : WJ G d0 Rf ja M E H) (hS : va_S (jA Rf) H0 H locs) {i : Nat} (hv : VL M i = true) {t : Nat} (ht : t < nS M) (ht2 : t < 2147483648) (hlink : Cond.fieldLink own index (TX2 3).1 (TX2 3).2.1 (TX2 3).2.2.1 ∈ BIG) (hdg : decode cc pc = .ok (.putfield index, 3))
    (kk : ∀ (H1 : Heap) (locs1 : List Loc), WJ G d0 Rf ja (mset M 14 i (nI t)) E H1 → va_S (jA Rf) H0 H1 locs1 → W p l e R s m args below meth c H1 locs1 cells slots Q (F0 m (pc + 3) ls rest)) : W p l e R s m args below meth c H locs cells slots Q (F0 m pc ls (.ref (ja 6 t) :: .ref (ja 2 i) :: rest)) := by
  refine r2_put hC hK hS (hW.1.own (k := 2) (i := i) (show jV M 2 i from hv)) (hW.ob (k := 2) (i := i) (show jV M 2 i from hv)) lay_X2 tyX2 tyX2_ok nmX2 rfl 3 (by decide) hlink (fun x hx => hx) rfl rfl rfl (Nat.le_of_ble_eq_true rfl) hdg (fun H1 locs1 e1 z oq hS1 => kk H1 locs1 (hW.put (k := 2) (i := i) (show jV M 2 i from hv) e1 oq ?_ (fun k9 i9 hv9 h9 => ?_) rfl rfl rfl rfl rfl ?_) hS1)
  · show ([.ref (ja 3 (i / 3)), .int (M 12 i), .int (M 13 i), va_rf (jp ja 6 (upd (M 14) i (nI t) i))] : List Value) = _; rw [upd_s, jp_s 6 ht2]; rfl
  · match k9, hv9, h9 with
    | 0, hv9, h9 => simp [jF, mset]
    | 1, hv9, h9 => simp [jF, mset]
    | 2, hv9, h9 => have h8 := h9 rfl; show ([.ref (ja 3 (i9 / 3)), .int (M 12 i9), .int (M 13 i9), va_rf (jp ja 6 (upd (M 14) i (nI t) i9))] : List Value) = _; rw [upd_n _ _ h8]; rfl
    | 3, hv9, h9 => simp [jF, mset]
    | 4, hv9, h9 => simp [jF, mset]
    | 5, hv9, h9 => simp [jF, mset]
    | 6, hv9, h9 => simp [jF, mset]
    | 7, hv9, h9 => simp [jF, mset]
    | 8, hv9, h9 => simp [jF, mset]
    | q + 9, hv9, h9 => exact hv9.elim
  · exact ⟨hW.2.1, ptOK_14 hW.2.2.1 (Or.inr ⟨t, ht, rfl⟩), hW.2.2.2⟩
theorem jp_as (hC : CallFix p m c cc nL s args BIG own) (hK : gK G s) (hW : WJ G d0 Rf ja M E H) (hS : va_S (jA Rf) H0 H locs) {i : Nat} (hv : i < nR M) {x : Int32} (hlink : Cond.fieldLink own index (TX5 7).1 (TX5 7).2.1 (TX5 7).2.2.1 ∈ BIG) (hdg : decode cc pc = .ok (.putfield index, 3))
    (kk : ∀ (H1 : Heap) (locs1 : List Loc), WJ G d0 Rf ja M (eS_ E (upd (eS E) i x)) H1 → va_S (jA Rf) H0 H1 locs1 → W p l e R s m args below meth c H1 locs1 cells slots Q (F0 m (pc + 3) ls rest)) : W p l e R s m args below meth c H locs cells slots Q (F0 m pc ls (.int x :: .ref (ja 5 i) :: rest)) := by
  refine r2_put hC hK hS (hW.1.own (k := 5) (i := i) (show jV M 5 i from hv)) (hW.ob (k := 5) (i := i) (show jV M 5 i from hv)) lay_X5 tyX5 tyX5_ok nmX5 rfl 7 (by decide) hlink (fun x hx => hx) rfl rfl rfl (Nat.le_of_ble_eq_true rfl) hdg (fun H1 locs1 e1 z oq hS1 => kk H1 locs1 (hW.put (k := 5) (i := i) (show jV M 5 i from hv) e1 oq ?_ (fun k9 i9 hv9 h9 => ?_) rfl rfl rfl rfl rfl ?_) hS1)
  · simp [jF, mset, upd, eS_, eR_, eD_, eS, eR]
  · match k9, hv9, h9 with
    | 0, hv9, h9 => rfl
    | 1, hv9, h9 => rfl
    | 2, hv9, h9 => rfl
    | 3, hv9, h9 => rfl
    | 4, hv9, h9 => rfl
    | 5, hv9, h9 => have h8 := h9 rfl; simp [jF, mset, upd, eS_, eR_, eD_, eS, eR, h8]
    | 6, hv9, h9 => rfl
    | 7, hv9, h9 => rfl
    | 8, hv9, h9 => rfl
    | q + 9, hv9, h9 => exact hv9.elim
  · exact hW.2
theorem jp_rc (hC : CallFix p m c cc nL s args BIG own) (hK : gK G s) (hW : WJ G d0 Rf ja M E H) (hS : va_S (jA Rf) H0 H locs) {i : Nat} (hv : i < nT M) {x : Int32} (hlink : Cond.fieldLink own index (TX7 4).1 (TX7 4).2.1 (TX7 4).2.2.1 ∈ BIG) (hdg : decode cc pc = .ok (.putfield index, 3))
    (kk : ∀ (H1 : Heap) (locs1 : List Loc), WJ G d0 Rf ja M (eR_ E (upd (eR E) i x)) H1 → va_S (jA Rf) H0 H1 locs1 → W p l e R s m args below meth c H1 locs1 cells slots Q (F0 m (pc + 3) ls rest)) : W p l e R s m args below meth c H locs cells slots Q (F0 m pc ls (.int x :: .ref (ja 7 i) :: rest)) := by
  refine r2_put hC hK hS (hW.1.own (k := 7) (i := i) (show jV M 7 i from hv)) (hW.ob (k := 7) (i := i) (show jV M 7 i from hv)) lay_X7 tyX7 tyX7_ok nmX7 rfl 4 (by decide) hlink (fun x hx => hx) rfl rfl rfl (Nat.le_of_ble_eq_true rfl) hdg (fun H1 locs1 e1 z oq hS1 => kk H1 locs1 (hW.put (k := 7) (i := i) (show jV M 7 i from hv) e1 oq ?_ (fun k9 i9 hv9 h9 => ?_) rfl rfl rfl rfl rfl ?_) hS1)
  · simp [jF, mset, upd, eS_, eR_, eD_, eS, eR]
  · match k9, hv9, h9 with
    | 0, hv9, h9 => rfl
    | 1, hv9, h9 => rfl
    | 2, hv9, h9 => rfl
    | 3, hv9, h9 => rfl
    | 4, hv9, h9 => rfl
    | 5, hv9, h9 => rfl
    | 6, hv9, h9 => rfl
    | 7, hv9, h9 => have h8 := h9 rfl; simp [jF, mset, upd, eS_, eR_, eD_, eS, eR, h8]
    | 8, hv9, h9 => rfl
    | q + 9, hv9, h9 => exact hv9.elim
  · exact hW.2
theorem jp_wl (hC : CallFix p m c cc nL s args BIG own) (hK : gK G s) (hW : WJ G d0 Rf ja M E H) (hS : va_S (jA Rf) H0 H locs) {j : Nat} {v : Int32} {w : Int64} (hw : w = bs (fun q => decide (¬ mset M 2 j v 2 q = 0))) (hlink : Cond.fieldLink own index (TX1 0).1 (TX1 0).2.1 (TX1 0).2.2.1 ∈ BIG) (hdg : decode cc pc = .ok (.putfield index, 3))
    (kk : ∀ (H1 : Heap) (locs1 : List Loc), WJ G d0 Rf ja (mset M 2 j v) E H1 → va_S (jA Rf) H0 H1 locs1 → W p l e R s m args below meth c H1 locs1 cells slots Q (F0 m (pc + 3) ls rest)) : W p l e R s m args below meth c H locs cells slots Q (F0 m pc ls (.long w :: .ref (ja 1 0) :: rest)) := by
  refine r2_put hC hK hS (hW.1.own (k := 1) (i := 0) (show jV M 1 0 from rfl)) (hW.ob (k := 1) (i := 0) (show jV M 1 0 from rfl)) lay_X1 tyX1 tyX1_ok nmX1 rfl 0 (by decide) hlink (fun x hx => hx) rfl rfl rfl (Nat.le_of_ble_eq_true rfl) hdg (fun H1 locs1 e1 z oq hS1 => kk H1 locs1 (hW.put (k := 1) (i := 0) (show jV M 1 0 from rfl) e1 oq ?_ (fun k9 i9 hv9 h9 => ?_) rfl rfl rfl rfl rfl ?_) hS1)
  · subst hw; rfl
  · match k9, hv9, h9 with
    | 0, hv9, h9 => rfl
    | 1, hv9, h9 => exact absurd hv9 (h9 rfl)
    | 2, hv9, h9 => rfl
    | 3, hv9, h9 => rfl
    | 4, hv9, h9 => rfl
    | 5, hv9, h9 => rfl
    | 6, hv9, h9 => rfl
    | 7, hv9, h9 => rfl
    | 8, hv9, h9 => rfl
    | q + 9, hv9, h9 => exact hv9.elim
  · exact hW.2
theorem jp_cl (hC : CallFix p m c cc nL s args BIG own) (hK : gK G s) (hW : WJ G d0 Rf ja M E H) (hS : va_S (jA Rf) H0 H locs) {j : Nat} {v : Int32} {w : Int64} (hw : w = bs (fun q => decide (¬ mset M 3 j v 3 q = 0))) (hlink : Cond.fieldLink own index (TX1 1).1 (TX1 1).2.1 (TX1 1).2.2.1 ∈ BIG) (hdg : decode cc pc = .ok (.putfield index, 3))
    (kk : ∀ (H1 : Heap) (locs1 : List Loc), WJ G d0 Rf ja (mset M 3 j v) E H1 → va_S (jA Rf) H0 H1 locs1 → W p l e R s m args below meth c H1 locs1 cells slots Q (F0 m (pc + 3) ls rest)) : W p l e R s m args below meth c H locs cells slots Q (F0 m pc ls (.long w :: .ref (ja 1 0) :: rest)) := by
  refine r2_put hC hK hS (hW.1.own (k := 1) (i := 0) (show jV M 1 0 from rfl)) (hW.ob (k := 1) (i := 0) (show jV M 1 0 from rfl)) lay_X1 tyX1 tyX1_ok nmX1 rfl 1 (by decide) hlink (fun x hx => hx) rfl rfl rfl (Nat.le_of_ble_eq_true rfl) hdg (fun H1 locs1 e1 z oq hS1 => kk H1 locs1 (hW.put (k := 1) (i := 0) (show jV M 1 0 from rfl) e1 oq ?_ (fun k9 i9 hv9 h9 => ?_) rfl rfl rfl rfl rfl ?_) hS1)
  · subst hw; rfl
  · match k9, hv9, h9 with
    | 0, hv9, h9 => rfl
    | 1, hv9, h9 => exact absurd hv9 (h9 rfl)
    | 2, hv9, h9 => rfl
    | 3, hv9, h9 => rfl
    | 4, hv9, h9 => rfl
    | 5, hv9, h9 => rfl
    | 6, hv9, h9 => rfl
    | 7, hv9, h9 => rfl
    | 8, hv9, h9 => rfl
    | q + 9, hv9, h9 => exact hv9.elim
  · exact hW.2
theorem jp_dd (hC : CallFix p m c cc nL s args BIG own) (hK : gK G s) (hW : WJ G d0 Rf ja M E H) (hS : va_S (jA Rf) H0 H locs) {f : Nat → Bool} {w : Int64} (hw : w = bs f) (hlink : Cond.fieldLink own index (TX1 2).1 (TX1 2).2.1 (TX1 2).2.2.1 ∈ BIG) (hdg : decode cc pc = .ok (.putfield index, 3))
    (kk : ∀ (H1 : Heap) (locs1 : List Loc), WJ G d0 Rf ja M (eD_ E f) H1 → va_S (jA Rf) H0 H1 locs1 → W p l e R s m args below meth c H1 locs1 cells slots Q (F0 m (pc + 3) ls rest)) : W p l e R s m args below meth c H locs cells slots Q (F0 m pc ls (.long w :: .ref (ja 1 0) :: rest)) := by
  refine r2_put hC hK hS (hW.1.own (k := 1) (i := 0) (show jV M 1 0 from rfl)) (hW.ob (k := 1) (i := 0) (show jV M 1 0 from rfl)) lay_X1 tyX1 tyX1_ok nmX1 rfl 2 (by decide) hlink (fun x hx => hx) rfl rfl rfl (Nat.le_of_ble_eq_true rfl) hdg (fun H1 locs1 e1 z oq hS1 => kk H1 locs1 (hW.put (k := 1) (i := 0) (show jV M 1 0 from rfl) e1 oq ?_ (fun k9 i9 hv9 h9 => ?_) rfl rfl rfl rfl rfl ?_) hS1)
  · subst hw; rfl
  · match k9, hv9, h9 with
    | 0, hv9, h9 => rfl
    | 1, hv9, h9 => exact absurd hv9 (h9 rfl)
    | 2, hv9, h9 => rfl
    | 3, hv9, h9 => rfl
    | 4, hv9, h9 => rfl
    | 5, hv9, h9 => rfl
    | 6, hv9, h9 => rfl
    | 7, hv9, h9 => rfl
    | 8, hv9, h9 => rfl
    | q + 9, hv9, h9 => exact hv9.elim
  · exact hW.2
end WP
