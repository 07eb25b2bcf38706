/-! THE LAW'S OUT: one long; the wrappers' world -/
/-- the law's row of one long -/
def oC (G : gG) (oa : Nat) (v : Int64) (H : Heap) : Prop := va_at G.1 gCl (oa, .inl (G.2.2.2.2, (1, .inr (.inl (fun _ => v))))) H
/-- what is not castable: needed where a later row of a table takes a throw -/
def gNc (S : State) : Prop := va_Nc xISE xIAE S ∧ va_Nc xIAE xIOE S ∧ va_Nc xISE xIOE S
theorem gNc.moved {u U : State} (hvm : u.vm.Alike U.vm) (h : gNc u) : gNc U := ⟨va_Nc.moved hvm h.1, va_Nc.moved hvm h.2.1, va_Nc.moved hvm h.2.2⟩
/-- a wrapper's beginning -/
def lJ (G : gG) (d0 mi : Nat) (Rf : Nat → Prop) (ja : Nat → Nat → Nat) (M : MS) (E : ES) (oa : Nat) (v : Int64) : State → Prop := fun U => jT G d0 mi Rf ja M E U ∧ oC G oa v U.heap ∧ gNc U
theorem gNc.blind {U : State} {g : JFrame} {mk : MethodId} {a : Array Value} (h : gNc U) : gNc (U.calling g mk a) := h.moved (u := U) (U := U.calling g mk a) (Vm.Alike.refl U.vm)
theorem lJ_blind {G : gG} {d0 mi : Nat} {Rf : Nat → Prop} {ja : Nat → Nat → Nat} {M : MS} {E : ES} {oa : Nat} {v : Int64} {av : List Value} : FrameBlind (va_Pc av (lJ G d0 mi Rf ja M E oa v)) := fun _ _ _ _ h => ⟨h.1, ⟨⟨h.2.1.1.1, h.2.1.1.2.1.blind, h.2.1.1.2.2⟩, h.2.1.2.blind⟩, h.2.2.1, h.2.2.2.blind⟩
/-- the free set of a wrapper -/
def lA (Rf : Nat → Prop) (oa : Nat) : Nat → Prop := fun q => jA Rf q ∨ q = oa
section OUT
variable {p : Program} {l : Launch} {e : Env} {R : Room} {s : State} {m : MethodId} {args : Array Value} {below : List Frame} {meth : Method} {c : Code} {H : Heap} {locs : List Loc} {cells slots : Nat} {Q : State → Prop}
variable {cc : ByteArray} {pc nL : Nat} {ls : Array Slot} {rest : List Value} {own : String} {G : gG} {oa : Nat} {v x : Int64}
/-- out[0] = x -/
theorem r2_lst (hC : CallFix p m c cc nL s args BIG own) (hK : gK G s) {A : Nat → Prop} {H0 : Heap} (hat : oC G oa v H) (hS : va_S A H0 H locs) (hA : A oa) (hdg : decode cc pc = .ok (.lastore, 1))
    (kk : ∀ (H1 : Heap) (locs1 : List Loc), oC G oa x H1 → H1.size = H.size → (∀ q : Nat, q ≠ oa → H1[q]? = H[q]?) → va_S A H0 H1 locs1 → W p l e R s m args below meth c H1 locs1 cells slots Q (F0 m (pc + 1) ls rest)) : W p l e R s m args below meth c H locs cells slots Q (F0 m pc ls (.long x :: .int 0 :: .ref oa :: rest)) := by
  refine W.last hC.1 hC.2.1 (show H[oa]? = some (vp_cell G.2.2.2.2 (1, .inr (.inl (fun _ => v)))) from hat) ((hK.1.2 3 _ rfl).1 1 (fun _ => .long v)) (fun q => by cases q) (by show ¬ ((0 : Int32) < 0 ∨ (arrV G.2.2.2.2 1 (fun _ => .long v)).slots.size ≤ (0 : Int32).toNatClampNeg); rw [arrV_size]; decide) rfl rfl hdg fun H1 e z oq => ?_
  refine kk H1 _ ?_ z oq (hS.put z oq hA)
  show H1[oa]? = some (vp_cell _ _)
  rw [e]
  rw [vp_cell_l, vp_cell_l, arrV_store]
  exact congrArg some (arrV_cg (fun j hj => by
    have : j = 0 := by omega
    subst this
    rfl))
/-- out[0] -/
theorem r2_lld (hC : CallFix p m c cc nL s args BIG own) (hK : gK G s) (hat : oC G oa v H) (hdg : decode cc pc = .ok (.laload, 1))
    (kk : W p l e R s m args below meth c H locs cells slots Q (F0 m (pc + 1) ls (.long v :: rest))) : W p l e R s m args below meth c H locs cells slots Q (F0 m pc ls (.int 0 :: .ref oa :: rest)) :=
  va_lald hC.1 hC.2.1 hK.1 (va_P1 hat) 0 3 rfl rfl (by show ¬ ((0 : Int32) < 0 ∨ 1 ≤ (0 : Int32).toNatClampNeg); decide) hdg kk
end OUT
