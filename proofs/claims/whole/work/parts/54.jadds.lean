/-! THE WORLD GROWS: a tray, a robot, a station, an order, a line -/
theorem fup_at {f : Nat → Nat} {n q j : Nat} : fup f n q j = if j = n then q else f j := rfl
def trD (M : MS) (h g a : Int32) : MS := mset (mset (mset (mset M 7 (nT M) h) 8 (nT M) g) 9 (nT M) a) 6 0 (nI (nT M + 1))
def trE (M : MS) (E : ES) (a : Int32) : ES := eR_ (ecE E 1 (capN (eC E 1) (nT M))) (upd (eR E) (nT M) a)
theorem WJ.addtr {G : gG} {d0 : Nat} {Rf : Nat → Prop} {ja : Nat → Nat → Nat} {M : MS} {E : ES} {Hb H : Heap} {q : Nat} (h g a : Int32) (hW : WJ G d0 Rf ja M E Hb) (hT : nT M < 16)
    (hR : WR G d0 Rf (fun k' i' => if k' = 7 ∧ i' = nT M then q else ja k' i') (fun k' i' => jV M k' i' ∨ (k' = 7 ∧ i' = nT M)) (fun k' i' => if k' = 7 ∧ i' = nT M then [.int (nI (nT M)), .int h, .int g, .int a, .int a] else jF ja M E k' i') (jLV M) (fun i' => if i' = 1 then jn M E 1 + 1 else jn M E i') (fun i' => if i' = 1 then capN (eC E 1) (jn M E 1) else eC E i') (fun i' j => if i' = 1 then fup (jc ja E 1) (jn M E 1) q j else jc ja E i' j) H) :
    WJ G d0 Rf (fun k' i' => if k' = 7 ∧ i' = nT M then q else ja k' i') (trD M h g a) (trE M E a) H := by
  have hc := hW.cnt
  have r7 : (trD M h g a) 7 = upd (M 7) (nT M) h := rfl
  have r8 : (trD M h g a) 8 = upd (M 8) (nT M) g := rfl
  have r9 : (trD M h g a) 9 = upd (M 9) (nT M) a := rfl
  have rE : eR (trE M E a) = upd (eR E) (nT M) a := rfl
  have hT1 : nT (trD M h g a) = nT M + 1 := by show (upd (M 6) 0 (nI (nT M + 1)) 0).toNatClampNeg = _; rw [upd_s, nI_clamp (by omega)]
  have hVo : ¬ jV M 7 (nT M) := fun h => Nat.lt_irrefl _ (show nT M < nT M from h)
  have hne : ∀ k i, jV M k i → ¬ (k = 7 ∧ i = nT M) := fun k i hv e => hVo (by rw [← e.1, ← e.2]; exact hv)
  refine WJ.addG (κ := 7) (n := nT M) (L0 := 1) (q := q) (NL := fun _ => False) hW hR (fun k i hv => (if_neg (hne k i hv))) (fun i hi => (if_neg (fun z => absurd z.1 (by decide)))) (if_pos ⟨rfl, rfl⟩) (fun k i hv => ?_) (fun k i hv => ?_) ?_ hVo (fun i hi => ?_) (fun i h => h.elim) (Or.inl (by decide)) rfl (fun k i hv => ?_) (fun i hi => ?_) (fun i h => h.elim) (fun i hi => ?_) (fun i j hi hj => ?_) ?_ ?_ ?_ ?_ (fun k i h => h) (fun k i => ?_) (fun i h => h.elim id (fun z => z.elim)) (fun i hi => ⟨?_, ?_, fun j hj => ?_⟩) (fun i h => h.elim)
  · match k, hv with
    | 0, h9 => exact Or.inl (show i = 0 from h9)
    | 1, h9 => exact Or.inl (show i = 0 from h9)
    | 2, h9 => exact Or.inl (show VL M i = true from h9)
    | 3, h9 => exact Or.inl (show i < nO M from h9)
    | 4, h9 => exact Or.inl (show i < nP M from h9)
    | 5, h9 => exact Or.inl (show i < nR M from h9)
    | 6, h9 => exact Or.inl (show i < nS M from h9)
    | 7, h9 => exact (Nat.lt_succ_iff_lt_or_eq.mp (show i < nT M + 1 by rw [← hT1]; exact h9)).elim Or.inl (fun z => Or.inr ⟨rfl, z⟩)
    | 8, h9 => exact Or.inl (show i = 0 from h9)
    | _ + 9, h9 => exact (show False from h9).elim
  · match k, hv with
    | 0, h9 => exact (show i = 0 from (show i = 0 from h9))
    | 1, h9 => exact (show i = 0 from (show i = 0 from h9))
    | 2, h9 => exact (show VL (trD M h g a) i = true from (show VL M i = true from h9))
    | 3, h9 => exact (show i < nO (trD M h g a) from (show i < nO M from h9))
    | 4, h9 => exact (show i < nP (trD M h g a) from (show i < nP M from h9))
    | 5, h9 => exact (show i < nR (trD M h g a) from (show i < nR M from h9))
    | 6, h9 => exact (show i < nS (trD M h g a) from (show i < nS M from h9))
    | 7, h9 => show i < nT (trD M h g a); have k9 : i < nT M := h9; omega
    | 8, h9 => exact (show i = 0 from (show i = 0 from h9))
    | _ + 9, h9 => exact (show False from h9).elim
  · show nT M < nT (trD M h g a); omega
  · exact Or.inl hi
  · match k, hv with
    | 0, hv => show [_, _, _, _, _, _, _, _] = [_, _, _, _, _, _, _, _]; rfl
    | 1, hv => show [_, _, _] = [_, _, _]; rfl
    | 2, hv => show [_, _, _, _] = [_, _, _, _]; rfl
    | 3, hv => show [_, _] = [_, _]; rfl
    | 4, hv => show [_, _, _] = [_, _, _]; rfl
    | 5, hv => show [_, _, _, _, _, _, _, _, _] = [_, _, _, _, _, _, _, _, _]; rfl
    | 6, hv => show [_, _, _] = [_, _, _]; rfl
    | 7, hv => have hi : i ≠ nT M := fun z => hne _ _ hv ⟨rfl, z⟩; show ([.int (nI i), .int (trD M h g a 7 i), .int (trD M h g a 8 i), .int (trD M h g a 9 i), .int (eR (trE M E a) i)] : List Value) = [_, _, _, _, _]; rw [r7, r8, r9, rE, upd_n _ _ hi, upd_n _ _ hi, upd_n _ _ hi, upd_n _ _ hi]
    | 8, hv => show [_, _, _, _, _, _] = [_, _, _, _, _, _]; rfl
    | _ + 9, hv => exact (show False from hv).elim
  · by_cases e : i = 1
    · rw [e, if_pos rfl]; exact hT1
    · rw [if_neg e]
      match i, e with
      | 0, _ => show nS (trD M h g a) = nS M; rfl
      | 1, e => exact absurd rfl e
      | 2, _ => show nO (trD M h g a) = nO M; rfl
      | 3, _ => show nP (trD M h g a) = nP M; rfl
      | 4, _ => show nR (trD M h g a) = nR M; rfl
      | 5, _ => show eN E 5 = eN E 5; rfl
      | 6, _ => show eN E 6 = eN E 6; rfl
      | i + 7, _ => show (if i + 7 < 17 then nL (trD M h g a) (i + 7 - 7) else eN E (i + 7)) = (if i + 7 < 17 then nL M (i + 7 - 7) else eN E (i + 7)); rfl
  · by_cases e : i = 1
    · rw [e, if_pos rfl]; show (if 1 = 1 then capN (eC E 1) (nT M) else eC E 1) = capN (eC E 1) (nT M); rw [if_pos rfl]
    · rw [if_neg e]; show (if i = 1 then capN (eC E 1) (nT M) else eC E i) = _; rw [if_neg e]
  · match i with
    | 0 => rfl
    | 1 => rfl
    | 2 => rfl
    | 3 => rfl
    | 4 => rfl
    | 5 => rfl
    | 6 => rfl
    | i + 7 => rfl
  · rfl
  · exact ⟨(show M 17 0 = nI (nR M) ∧ nR M ≤ 6 from hc.1), (show M 4 0 = nI (nS M) ∧ nS M ≤ 3 from hc.2.1), ⟨by rw [hT1]; exact upd_s (M 6) 0 _, by omega⟩, (show M 10 0 = nI (nO M) ∧ nO M ≤ 10 from hc.2.2.2.1), hc.2.2.2.2⟩
  · exact hW.2.2.1.mono (by omega) (Nat.le_refl _) (Nat.le_refl _) (fun k hk => hk) (fun r hr => Or.inl ⟨show r < nR M from hr, rfl, rfl⟩) (fun k hk => Or.inl ⟨show VL M k = true from hk, rfl⟩) rfl rfl rfl hW.2.2.1.2.2.2.2
  · exact (hW.cap (Or.inl (by decide))).add (fun z => by omega) (fun _ => by show nT M < 30; omega)
  · by_cases e : k = 7 ∧ i = nT M
    · rw [if_pos e, if_pos e]; show ([.int (nI (nT M)), .int h, .int g, .int a, .int a] : List Value) = [.int (nI (nT M)), .int (trD M h g a 7 (nT M)), .int (trD M h g a 8 (nT M)), .int (trD M h g a 9 (nT M)), .int (eR (trE M E a) (nT M))]; rw [r7, r8, r9, rE, upd_s, upd_s, upd_s, upd_s]
    · rw [if_neg e, if_neg e]
  · rfl
  · rfl
  · by_cases e : i = 1
    · subst e; rw [if_pos rfl, fup_at]
      by_cases z : j = jn M E 1
      · rw [if_pos z, if_pos ⟨rfl, z⟩]
      · rw [if_neg z, if_neg (fun y => z y.2)]
    · rw [if_neg e, if_neg (fun y => e y.1)]
def rbD (M : MS) (c w : Int32) : MS := mset (mset (mset (mset (mset (mset (mset (mset (M) 18 (nR M) c) 19 (nR M) w) 20 (nR M) 0) 21 (nR M) (-1)) 22 (nR M) (-1)) 23 (nR M) (-1)) 24 (nR M) (-1)) 17 0 (nI (nR M + 1))
def rbE (M : MS) (E : ES) : ES := eS_ (ecE E 4 (capN (eC E 4) (nR M))) (upd (eS E) (nR M) 0)
theorem WJ.addrb {G : gG} {d0 : Nat} {Rf : Nat → Prop} {ja : Nat → Nat → Nat} {M : MS} {E : ES} {Hb H : Heap} {q : Nat} (c w : Int32) (hW : WJ G d0 Rf ja M E Hb) (hT : nR M < 6)
    (hR : WR G d0 Rf (fun k' i' => if k' = 5 ∧ i' = nR M then q else ja k' i') (fun k' i' => jV M k' i' ∨ (k' = 5 ∧ i' = nR M)) (fun k' i' => if k' = 5 ∧ i' = nR M then [.int (nI (nR M)), .int w, .int c, .int 0, .null, .null, .int (-1), .int 0, .int (-1)] else jF ja M E k' i') (jLV M) (fun i' => if i' = 4 then jn M E 4 + 1 else jn M E i') (fun i' => if i' = 4 then capN (eC E 4) (jn M E 4) else eC E i') (fun i' j => if i' = 4 then fup (jc ja E 4) (jn M E 4) q j else jc ja E i' j) H) :
    WJ G d0 Rf (fun k' i' => if k' = 5 ∧ i' = nR M then q else ja k' i') (rbD M c w) (rbE M E) H := by
  have hc := hW.cnt
  have r18 : (rbD M c w) 18 = upd (M 18) (nR M) c := rfl
  have r19 : (rbD M c w) 19 = upd (M 19) (nR M) w := rfl
  have r20 : (rbD M c w) 20 = upd (M 20) (nR M) 0 := rfl
  have r21 : (rbD M c w) 21 = upd (M 21) (nR M) (-1) := rfl
  have r22 : (rbD M c w) 22 = upd (M 22) (nR M) (-1) := rfl
  have r23 : (rbD M c w) 23 = upd (M 23) (nR M) (-1) := rfl
  have r24 : (rbD M c w) 24 = upd (M 24) (nR M) (-1) := rfl
  have rE : eS (rbE M E) = upd (eS E) (nR M) 0 := rfl
  have hT1 : nR (rbD M c w) = nR M + 1 := by show (upd (M 17) 0 (nI (nR M + 1)) 0).toNatClampNeg = _; rw [upd_s, nI_clamp (by omega)]
  have hVo : ¬ jV M 5 (nR M) := fun h => Nat.lt_irrefl _ (show nR M < nR M from h)
  have hne : ∀ k i, jV M k i → ¬ (k = 5 ∧ i = nR M) := fun k i hv e => hVo (by rw [← e.1, ← e.2]; exact hv)
  refine WJ.addG (κ := 5) (n := nR M) (L0 := 4) (q := q) (NL := fun _ => False) hW hR (fun k i hv => (if_neg (hne k i hv))) (fun i hi => (if_neg (fun z => absurd z.1 (by decide)))) (if_pos ⟨rfl, rfl⟩) (fun k i hv => ?_) (fun k i hv => ?_) ?_ hVo (fun i hi => ?_) (fun i h => h.elim) (Or.inl (by decide)) rfl (fun k i hv => ?_) (fun i hi => ?_) (fun i h => h.elim) (fun i hi => ?_) (fun i j hi hj => ?_) ?_ ?_ ?_ ?_ (fun k i h => h) (fun k i => ?_) (fun i h => h.elim id (fun z => z.elim)) (fun i hi => ⟨?_, ?_, fun j hj => ?_⟩) (fun i h => h.elim)
  · match k, hv with
    | 0, h9 => exact Or.inl (show i = 0 from h9)
    | 1, h9 => exact Or.inl (show i = 0 from h9)
    | 2, h9 => exact Or.inl (show VL M i = true from h9)
    | 3, h9 => exact Or.inl (show i < nO M from h9)
    | 4, h9 => exact Or.inl (show i < nP M from h9)
    | 5, h9 => exact (Nat.lt_succ_iff_lt_or_eq.mp (show i < nR M + 1 by rw [← hT1]; exact h9)).elim Or.inl (fun z => Or.inr ⟨rfl, z⟩)
    | 6, h9 => exact Or.inl (show i < nS M from h9)
    | 7, h9 => exact Or.inl (show i < nT M from h9)
    | 8, h9 => exact Or.inl (show i = 0 from h9)
    | _ + 9, h9 => exact (show False from h9).elim
  · match k, hv with
    | 0, h9 => exact (show i = 0 from (show i = 0 from h9))
    | 1, h9 => exact (show i = 0 from (show i = 0 from h9))
    | 2, h9 => exact (show VL (rbD M c w) i = true from (show VL M i = true from h9))
    | 3, h9 => exact (show i < nO (rbD M c w) from (show i < nO M from h9))
    | 4, h9 => exact (show i < nP (rbD M c w) from (show i < nP M from h9))
    | 5, h9 => show i < nR (rbD M c w); have k9 : i < nR M := h9; omega
    | 6, h9 => exact (show i < nS (rbD M c w) from (show i < nS M from h9))
    | 7, h9 => exact (show i < nT (rbD M c w) from (show i < nT M from h9))
    | 8, h9 => exact (show i = 0 from (show i = 0 from h9))
    | _ + 9, h9 => exact (show False from h9).elim
  · show nR M < nR (rbD M c w); omega
  · exact Or.inl hi
  · match k, hv with
    | 0, hv => show [_, _, _, _, _, _, _, _] = [_, _, _, _, _, _, _, _]; rfl
    | 1, hv => show [_, _, _] = [_, _, _]; rfl
    | 2, hv => show [_, _, _, _] = [_, _, _, _]; rfl
    | 3, hv => show [_, _] = [_, _]; rfl
    | 4, hv => show [_, _, _] = [_, _, _]; rfl
    | 5, hv => have hi : i ≠ nR M := fun z => hne _ _ hv ⟨rfl, z⟩; show ([.int (nI i), .int (rbD M c w 19 i), .int (rbD M c w 18 i), .int (rbD M c w 20 i), va_rf (jp (fun k' i' => if k' = 5 ∧ i' = nR M then q else ja k' i') 7 (rbD M c w 21 i)), va_rf (jp (fun k' i' => if k' = 5 ∧ i' = nR M then q else ja k' i') 2 (rbD M c w 22 i)), .int (rbD M c w 24 i), .int (eS (rbE M E) i), .int (rbD M c w 23 i)] : List Value) = [_, _, _, _, _, _, _, _, _]; rw [r18, r19, r20, r21, r22, r23, r24, rE, upd_n _ _ hi, upd_n _ _ hi, upd_n _ _ hi, upd_n _ _ hi, upd_n _ _ hi, upd_n _ _ hi, upd_n _ _ hi, upd_n _ _ hi]
    | 6, hv => show [_, _, _] = [_, _, _]; rfl
    | 7, hv => show [_, _, _, _, _] = [_, _, _, _, _]; rfl
    | 8, hv => show [_, _, _, _, _, _] = [_, _, _, _, _, _]; rfl
    | _ + 9, hv => exact (show False from hv).elim
  · by_cases e : i = 4
    · rw [e, if_pos rfl]; exact hT1
    · rw [if_neg e]
      match i, e with
      | 0, _ => show nS (rbD M c w) = nS M; rfl
      | 1, _ => show nT (rbD M c w) = nT M; rfl
      | 2, _ => show nO (rbD M c w) = nO M; rfl
      | 3, _ => show nP (rbD M c w) = nP M; rfl
      | 4, e => exact absurd rfl e
      | 5, _ => show eN E 5 = eN E 5; rfl
      | 6, _ => show eN E 6 = eN E 6; rfl
      | i + 7, _ => show (if i + 7 < 17 then nL (rbD M c w) (i + 7 - 7) else eN E (i + 7)) = (if i + 7 < 17 then nL M (i + 7 - 7) else eN E (i + 7)); rfl
  · by_cases e : i = 4
    · rw [e, if_pos rfl]; show (if 4 = 4 then capN (eC E 4) (nR M) else eC E 4) = capN (eC E 4) (nR M); rw [if_pos rfl]
    · rw [if_neg e]; show (if i = 4 then capN (eC E 4) (nR M) else eC E i) = _; rw [if_neg e]
  · match i with
    | 0 => rfl
    | 1 => rfl
    | 2 => rfl
    | 3 => rfl
    | 4 => rfl
    | 5 => rfl
    | 6 => rfl
    | i + 7 => rfl
  · rfl
  · exact ⟨⟨by rw [hT1]; exact upd_s (M 17) 0 _, by omega⟩, (show M 4 0 = nI (nS M) ∧ nS M ≤ 3 from hc.2.1), (show M 6 0 = nI (nT M) ∧ nT M ≤ 16 from hc.2.2.1), (show M 10 0 = nI (nO M) ∧ nO M ≤ 10 from hc.2.2.2.1), hc.2.2.2.2⟩
  · exact hW.2.2.1.mono (Nat.le_refl _) (Nat.le_refl _) (Nat.le_refl _) (fun k hk => hk) (fun r hr => by by_cases z : r = nR M; exact Or.inr ⟨by rw [z, r21, upd_s], by rw [z, r22, upd_s]⟩; exact Or.inl ⟨by omega, by rw [r21, upd_n _ _ z], by rw [r22, upd_n _ _ z]⟩) (fun k hk => Or.inl ⟨show VL M k = true from hk, rfl⟩) rfl rfl rfl hW.2.2.1.2.2.2.2
  · exact (hW.cap (Or.inl (by decide))).add (fun z => by omega) (fun _ => by show nR M < 30; omega)
  · by_cases e : k = 5 ∧ i = nR M
    · rw [if_pos e, if_pos e]; show ([.int (nI (nR M)), .int w, .int c, .int 0, .null, .null, .int (-1), .int 0, .int (-1)] : List Value) = [.int (nI (nR M)), .int (rbD M c w 19 (nR M)), .int (rbD M c w 18 (nR M)), .int (rbD M c w 20 (nR M)), va_rf (jp (fun k' i' => if k' = 5 ∧ i' = nR M then q else ja k' i') 7 (rbD M c w 21 (nR M))), va_rf (jp (fun k' i' => if k' = 5 ∧ i' = nR M then q else ja k' i') 2 (rbD M c w 22 (nR M))), .int (rbD M c w 24 (nR M)), .int (eS (rbE M E) (nR M)), .int (rbD M c w 23 (nR M))]; rw [r18, r19, r20, r21, r22, r23, r24, rE, upd_s, upd_s, upd_s, upd_s, upd_s, upd_s, upd_s, upd_s, jp_n, jp_n]; rfl
    · rw [if_neg e, if_neg e]
  · rfl
  · rfl
  · by_cases e : i = 4
    · subst e; rw [if_pos rfl, fup_at]
      by_cases z : j = jn M E 4
      · rw [if_pos z, if_pos ⟨rfl, z⟩]
      · rw [if_neg z, if_neg (fun y => z y.2)]
    · rw [if_neg e, if_neg (fun y => e y.1)]
def stD (M : MS) (c : Int32) : MS := mset (mset M 5 (nS M) c) 4 0 (nI (nS M + 1))
def stE (M : MS) (E : ES) : ES := eL_ E (fun i => if i = 17 + nS M then 0 else eN E i) (eL E) (fun i => if i = 17 + nS M then 0 else if i = 0 then capN (eC E 0) (nS M) else eC E i)
theorem WJ.addst {G : gG} {d0 : Nat} {Rf : Nat → Prop} {ja : Nat → Nat → Nat} {M : MS} {E : ES} {Hb H : Heap} {q ql : Nat} (c : Int32) (hW : WJ G d0 Rf ja M E Hb) (hT : nS M < 3)
    (hR : WR G d0 Rf (fun k' i' => if k' = 6 ∧ i' = nS M then q else if k' = 10 ∧ i' = 17 + nS M then ql else ja k' i') (fun k' i' => jV M k' i' ∨ (k' = 6 ∧ i' = nS M)) (fun k' i' => if k' = 6 ∧ i' = nS M then [.int (nI (nS M)), .int c, .ref ql] else jF ja M E k' i') (fun i' => jLV M i' ∨ i' = 17 + nS M) (fun i' => if i' = 0 then (if 0 = 17 + nS M then 0 else jn M E 0) + 1 else if i' = 17 + nS M then 0 else jn M E i') (fun i' => if i' = 0 then capN (if 0 = 17 + nS M then 0 else eC E 0) (if 0 = 17 + nS M then 0 else jn M E 0) else if i' = 17 + nS M then 0 else eC E i') (fun i' j => if i' = 0 then fup (jc ja E 0) ((if 0 = 17 + nS M then 0 else jn M E 0)) q j else jc ja E i' j) H) :
    WJ G d0 Rf (fun k' i' => if k' = 6 ∧ i' = nS M then q else if k' = 10 ∧ i' = 17 + nS M then ql else ja k' i') (stD M c) (stE M E) H := by
  have hc := hW.cnt
  have r5 : (stD M c) 5 = upd (M 5) (nS M) c := rfl
  have hT1 : nS (stD M c) = nS M + 1 := by show (upd (M 4) 0 (nI (nS M + 1)) 0).toNatClampNeg = _; rw [upd_s, nI_clamp (by omega)]
  have hVo : ¬ jV M 6 (nS M) := fun h => Nat.lt_irrefl _ (show nS M < nS M from h)
  have hne : ∀ k i, jV M k i → ¬ (k = 6 ∧ i = nS M) := fun k i hv e => hVo (by rw [← e.1, ← e.2]; exact hv)
  have hnlV : ¬ jLV M (17 + nS M) := by unfold jLV; have k9 := hc.O10; omega
  have hL0l : ¬ 0 = 17 + nS M := by omega
  refine WJ.addG (κ := 6) (n := nS M) (L0 := 0) (q := q) (NL := fun i => i = 17 + nS M) hW hR (fun k i hv => (if_neg (hne k i hv)).trans (if_neg (fun z => by have k9 := jV_lt hv; omega))) (fun i hi => (if_neg (fun z => absurd z.1 (by decide))).trans (if_neg (fun z => hnlV (by rw [← z.2]; exact hi)))) (if_pos ⟨rfl, rfl⟩) (fun k i hv => ?_) (fun k i hv => ?_) ?_ hVo (fun i hi => ?_) (fun i h => by rw [h]; exact ⟨by omega, hnlV⟩) (Or.inl (by decide)) rfl (fun k i hv => ?_) (fun i hi => ?_) (fun i h => by rw [h]; exact ⟨(jn_17 _).trans (if_pos rfl), if_pos rfl⟩) (fun i hi => ?_) (fun i j hi hj => ?_) ?_ ?_ ?_ ?_ (fun k i h => h) (fun k i => ?_) (fun i h => h) (fun i hi => ⟨?_, ?_, fun j hj => ?_⟩) (fun i h => by rw [h]; exact ⟨(if_neg (fun z => hL0l z.symm)).trans (if_pos rfl), (if_neg (fun z => hL0l z.symm)).trans (if_pos rfl)⟩)
  · match k, hv with
    | 0, h9 => exact Or.inl (show i = 0 from h9)
    | 1, h9 => exact Or.inl (show i = 0 from h9)
    | 2, h9 => exact Or.inl (show VL M i = true from h9)
    | 3, h9 => exact Or.inl (show i < nO M from h9)
    | 4, h9 => exact Or.inl (show i < nP M from h9)
    | 5, h9 => exact Or.inl (show i < nR M from h9)
    | 6, h9 => exact (Nat.lt_succ_iff_lt_or_eq.mp (show i < nS M + 1 by rw [← hT1]; exact h9)).elim Or.inl (fun z => Or.inr ⟨rfl, z⟩)
    | 7, h9 => exact Or.inl (show i < nT M from h9)
    | 8, h9 => exact Or.inl (show i = 0 from h9)
    | _ + 9, h9 => exact (show False from h9).elim
  · match k, hv with
    | 0, h9 => exact (show i = 0 from (show i = 0 from h9))
    | 1, h9 => exact (show i = 0 from (show i = 0 from h9))
    | 2, h9 => exact (show VL (stD M c) i = true from (show VL M i = true from h9))
    | 3, h9 => exact (show i < nO (stD M c) from (show i < nO M from h9))
    | 4, h9 => exact (show i < nP (stD M c) from (show i < nP M from h9))
    | 5, h9 => exact (show i < nR (stD M c) from (show i < nR M from h9))
    | 6, h9 => show i < nS (stD M c); have k9 : i < nS M := h9; omega
    | 7, h9 => exact (show i < nT (stD M c) from (show i < nT M from h9))
    | 8, h9 => exact (show i = 0 from (show i = 0 from h9))
    | _ + 9, h9 => exact (show False from h9).elim
  · show nS M < nS (stD M c); omega
  · have h9 : i < 7 ∨ (7 ≤ i ∧ i < 7 + nO M) ∨ (17 ≤ i ∧ i < 17 + nS (stD M c)) := hi
    show (i < 7 ∨ (7 ≤ i ∧ i < 7 + nO M) ∨ (17 ≤ i ∧ i < 17 + nS M)) ∨ i = 17 + nS M
    omega
  · match k, hv with
    | 0, hv => show [_, _, _, _, _, _, _, _] = [_, _, _, _, _, _, _, _]; rfl
    | 1, hv => show [_, _, _] = [_, _, _]; rfl
    | 2, hv => show [_, _, _, _] = [_, _, _, _]; rfl
    | 3, hv => show [_, _] = [_, _]; rfl
    | 4, hv => show [_, _, _] = [_, _, _]; rfl
    | 5, hv => show [_, _, _, _, _, _, _, _, _] = [_, _, _, _, _, _, _, _, _]; rfl
    | 6, hv => have hi : i ≠ nS M := fun z => hne _ _ hv ⟨rfl, z⟩; show ([.int (nI i), .int (stD M c 5 i), _] : List Value) = [_, _, _]; rw [r5, upd_n _ _ hi]
    | 7, hv => show [_, _, _, _, _] = [_, _, _, _, _]; rfl
    | 8, hv => show [_, _, _, _, _, _] = [_, _, _, _, _, _]; rfl
    | _ + 9, hv => exact (show False from hv).elim
  · by_cases e : i = 0
    · rw [e, if_pos rfl]; exact hT1
    · rw [if_neg e]
      match i, e, hi with
      | 0, e, _ => exact absurd rfl e
      | 1, _, _ => show nT (stD M c) = nT M; rfl
      | 2, _, _ => show nO (stD M c) = nO M; rfl
      | 3, _, _ => show nP (stD M c) = nP M; rfl
      | 4, _, _ => show nR (stD M c) = nR M; rfl
      | 5, _, _ => show (if 5 = 17 + nS M then 0 else eN E 5) = eN E 5; rw [if_neg (by omega)]
      | 6, _, _ => show (if 6 = 17 + nS M then 0 else eN E 6) = eN E 6; rw [if_neg (by omega)]
      | i + 7, _, hi =>
        show (if i + 7 < 17 then nL M (i + 7 - 7) else (if i + 7 = 17 + nS M then 0 else eN E (i + 7))) = (if i + 7 < 17 then nL M (i + 7 - 7) else eN E (i + 7))
        rw [if_neg (show ¬ i + 7 = 17 + nS M from fun z => hnlV (by rw [← z]; exact hi))]
  · show (if i = 17 + nS M then 0 else if i = 0 then capN (eC E 0) (nS M) else eC E i) = _
    rw [if_neg (show ¬ i = 17 + nS M from fun z => hnlV (by rw [← z]; exact hi))]
    rfl
  · match i with
    | 0 => rfl
    | 1 => rfl
    | 2 => rfl
    | 3 => rfl
    | 4 => rfl
    | 5 => rfl
    | 6 => rfl
    | i + 7 => rfl
  · rfl
  · exact ⟨(show M 17 0 = nI (nR M) ∧ nR M ≤ 6 from hc.1), ⟨by rw [hT1]; exact upd_s (M 4) 0 _, by omega⟩, (show M 6 0 = nI (nT M) ∧ nT M ≤ 16 from hc.2.2.1), (show M 10 0 = nI (nO M) ∧ nO M ≤ 10 from hc.2.2.2.1), hc.2.2.2.2⟩
  · exact hW.2.2.1.mono (Nat.le_refl _) (by omega) (Nat.le_refl _) (fun k hk => hk) (fun r hr => Or.inl ⟨show r < nR M from hr, rfl, rfl⟩) (fun k hk => Or.inl ⟨show VL M k = true from hk, rfl⟩) rfl rfl rfl hW.2.2.1.2.2.2.2
  · exact (hW.cap (Or.inl (by decide))).add (fun z => by omega) (fun _ => by show nS M < 30; omega)
  · by_cases e : k = 6 ∧ i = nS M
    · rw [if_pos e, if_pos e]; show ([.int (nI (nS M)), .int c, .ref ql] : List Value) = [.int (nI (nS M)), .int (stD M c 5 (nS M)), .ref (if 10 = 6 ∧ 17 + nS M = nS M then q else if 10 = 10 ∧ 17 + nS M = 17 + nS M then ql else ja 10 (17 + nS M))]; rw [r5, upd_s, if_neg (fun z => absurd z.1 (by decide)), if_pos ⟨rfl, rfl⟩]
    · rw [if_neg e, if_neg e]
  · have hni : ¬ i = 17 + nS M := fun z => hnlV (by rw [← z]; exact hi)
    rw [if_neg hL0l, if_neg hni]
  · have hni : ¬ i = 17 + nS M := fun z => hnlV (by rw [← z]; exact hi)
    rw [if_neg hL0l, if_neg hL0l, if_neg hni]
  · rw [if_neg hL0l]
    by_cases e : i = 0
    · subst e; rw [if_pos rfl, fup_at]
      by_cases z : j = jn M E 0
      · rw [if_pos z, if_pos ⟨rfl, z⟩]
      · rw [if_neg z, if_neg (fun y => z y.2)]
    · rw [if_neg e, if_neg (fun y => e y.1)]
def orD (M : MS) : MS := mset M 10 0 (nI (nO M + 1))
def orE (M : MS) (E : ES) : ES := eL_ E (eN E) (eL E) (fun i => if i = 7 + nO M then 0 else if i = 2 then capN (eC E 2) (nO M) else eC E i)
theorem WJ.addor {G : gG} {d0 : Nat} {Rf : Nat → Prop} {ja : Nat → Nat → Nat} {M : MS} {E : ES} {Hb H : Heap} {q ql : Nat}  (hW : WJ G d0 Rf ja M E Hb) (hT : nO M < 10)
    (hR : WR G d0 Rf (fun k' i' => if k' = 3 ∧ i' = nO M then q else if k' = 10 ∧ i' = 7 + nO M then ql else ja k' i') (fun k' i' => jV M k' i' ∨ (k' = 3 ∧ i' = nO M)) (fun k' i' => if k' = 3 ∧ i' = nO M then [.int (nI (nO M)), .ref ql] else jF ja M E k' i') (fun i' => jLV M i' ∨ i' = 7 + nO M) (fun i' => if i' = 2 then (if 2 = 7 + nO M then 0 else jn M E 2) + 1 else if i' = 7 + nO M then 0 else jn M E i') (fun i' => if i' = 2 then capN (if 2 = 7 + nO M then 0 else eC E 2) (if 2 = 7 + nO M then 0 else jn M E 2) else if i' = 7 + nO M then 0 else eC E i') (fun i' j => if i' = 2 then fup (jc ja E 2) ((if 2 = 7 + nO M then 0 else jn M E 2)) q j else jc ja E i' j) H) :
    WJ G d0 Rf (fun k' i' => if k' = 3 ∧ i' = nO M then q else if k' = 10 ∧ i' = 7 + nO M then ql else ja k' i') (orD M) (orE M E) H := by
  have hc := hW.cnt
  have h0 : nL M (nO M) = 0 := hW.2.2.1.2.2.2.2 (nO M) (Nat.le_refl _) hT
  have hT1 : nO (orD M) = nO M + 1 := by show (upd (M 10) 0 (nI (nO M + 1)) 0).toNatClampNeg = _; rw [upd_s, nI_clamp (by omega)]
  have hV9 : ∀ i, VL (orD M) i = true ↔ VL M i = true := fun i => by
    unfold VL
    rw [show ∀ o, nL (orD M) o = nL M o from fun _ => rfl, hT1, Bool.and_eq_true, Bool.and_eq_true, decide_eq_true_eq, decide_eq_true_eq, decide_eq_true_eq]
    constructor
    · rintro ⟨a, b⟩
      refine ⟨?_, b⟩
      by_cases z : i / 3 = nO M
      · rw [z, h0] at b; omega
      · omega
    · rintro ⟨a, b⟩; exact ⟨by omega, b⟩
  have hVo : ¬ jV M 3 (nO M) := fun h => Nat.lt_irrefl _ (show nO M < nO M from h)
  have hne : ∀ k i, jV M k i → ¬ (k = 3 ∧ i = nO M) := fun k i hv e => hVo (by rw [← e.1, ← e.2]; exact hv)
  have hnlV : ¬ jLV M (7 + nO M) := by unfold jLV; omega
  have hL0l : ¬ 2 = 7 + nO M := by omega
  refine WJ.addG (κ := 3) (n := nO M) (L0 := 2) (q := q) (NL := fun i => i = 7 + nO M) hW hR (fun k i hv => (if_neg (hne k i hv)).trans (if_neg (fun z => by have k9 := jV_lt hv; omega))) (fun i hi => (if_neg (fun z => absurd z.1 (by decide))).trans (if_neg (fun z => hnlV (by rw [← z.2]; exact hi)))) (if_pos ⟨rfl, rfl⟩) (fun k i hv => ?_) (fun k i hv => ?_) ?_ hVo (fun i hi => ?_) (fun i h => by rw [h]; exact ⟨by omega, hnlV⟩) (Or.inl (by decide)) rfl (fun k i hv => ?_) (fun i hi => ?_) (fun i h => by rw [h]; exact ⟨(jn_7 hT).trans h0, if_pos rfl⟩) (fun i hi => ?_) (fun i j hi hj => ?_) ?_ ?_ ?_ ?_ (fun k i h => h) (fun k i => ?_) (fun i h => h) (fun i hi => ⟨?_, ?_, fun j hj => ?_⟩) (fun i h => by rw [h]; exact ⟨(if_neg (fun z => hL0l z.symm)).trans (if_pos rfl), (if_neg (fun z => hL0l z.symm)).trans (if_pos rfl)⟩)
  · match k, hv with
    | 0, h9 => exact Or.inl (show i = 0 from h9)
    | 1, h9 => exact Or.inl (show i = 0 from h9)
    | 2, h9 => exact Or.inl ((hV9 i).mp h9)
    | 3, h9 => exact (Nat.lt_succ_iff_lt_or_eq.mp (show i < nO M + 1 by rw [← hT1]; exact h9)).elim Or.inl (fun z => Or.inr ⟨rfl, z⟩)
    | 4, h9 => exact Or.inl (show i < nP M from h9)
    | 5, h9 => exact Or.inl (show i < nR M from h9)
    | 6, h9 => exact Or.inl (show i < nS M from h9)
    | 7, h9 => exact Or.inl (show i < nT M from h9)
    | 8, h9 => exact Or.inl (show i = 0 from h9)
    | _ + 9, h9 => exact (show False from h9).elim
  · match k, hv with
    | 0, h9 => exact (show i = 0 from (show i = 0 from h9))
    | 1, h9 => exact (show i = 0 from (show i = 0 from h9))
    | 2, h9 => exact (hV9 i).mpr h9
    | 3, h9 => show i < nO (orD M); have k9 : i < nO M := h9; omega
    | 4, h9 => exact (show i < nP (orD M) from (show i < nP M from h9))
    | 5, h9 => exact (show i < nR (orD M) from (show i < nR M from h9))
    | 6, h9 => exact (show i < nS (orD M) from (show i < nS M from h9))
    | 7, h9 => exact (show i < nT (orD M) from (show i < nT M from h9))
    | 8, h9 => exact (show i = 0 from (show i = 0 from h9))
    | _ + 9, h9 => exact (show False from h9).elim
  · show nO M < nO (orD M); omega
  · have h9 : i < 7 ∨ (7 ≤ i ∧ i < 7 + nO (orD M)) ∨ (17 ≤ i ∧ i < 17 + nS M) := hi
    show (i < 7 ∨ (7 ≤ i ∧ i < 7 + nO M) ∨ (17 ≤ i ∧ i < 17 + nS M)) ∨ i = 7 + nO M
    omega
  · match k, hv with
    | 0, hv => show [_, _, _, _, _, _, _, _] = [_, _, _, _, _, _, _, _]; rfl
    | 1, hv => show [_, _, _] = [_, _, _]; rfl
    | 2, hv => show [_, _, _, _] = [_, _, _, _]; rfl
    | 3, hv => show [_, _] = [_, _]; rfl
    | 4, hv => show [_, _, _] = [_, _, _]; rfl
    | 5, hv => show [_, _, _, _, _, _, _, _, _] = [_, _, _, _, _, _, _, _, _]; rfl
    | 6, hv => show [_, _, _] = [_, _, _]; rfl
    | 7, hv => show [_, _, _, _, _] = [_, _, _, _, _]; rfl
    | 8, hv => show [_, _, _, _, _, _] = [_, _, _, _, _, _]; rfl
    | _ + 9, hv => exact (show False from hv).elim
  · by_cases e : i = 2
    · rw [e, if_pos rfl]; exact hT1
    · rw [if_neg e]
      match i, e with
      | 0, _ => show nS (orD M) = nS M; rfl
      | 1, _ => show nT (orD M) = nT M; rfl
      | 2, e => exact absurd rfl e
      | 3, _ => show nP (orD M) = nP M; rfl
      | 4, _ => show nR (orD M) = nR M; rfl
      | 5, _ => show eN E 5 = eN E 5; rfl
      | 6, _ => show eN E 6 = eN E 6; rfl
      | i + 7, _ => show (if i + 7 < 17 then nL (orD M) (i + 7 - 7) else eN E (i + 7)) = (if i + 7 < 17 then nL M (i + 7 - 7) else eN E (i + 7)); rfl
  · show (if i = 7 + nO M then 0 else if i = 2 then capN (eC E 2) (nO M) else eC E i) = _
    rw [if_neg (show ¬ i = 7 + nO M from fun z => hnlV (by rw [← z]; exact hi))]
    rfl
  · match i with
    | 0 => rfl
    | 1 => rfl
    | 2 => rfl
    | 3 => rfl
    | 4 => rfl
    | 5 => rfl
    | 6 => rfl
    | i + 7 => rfl
  · rfl
  · exact ⟨(show M 17 0 = nI (nR M) ∧ nR M ≤ 6 from hc.1), (show M 4 0 = nI (nS M) ∧ nS M ≤ 3 from hc.2.1), (show M 6 0 = nI (nT M) ∧ nT M ≤ 16 from hc.2.2.1), ⟨by rw [hT1]; exact upd_s (M 10) 0 _, by omega⟩, hc.2.2.2.2⟩
  · exact hW.2.2.1.mono (Nat.le_refl _) (Nat.le_refl _) (by omega) (fun k hk => (hV9 k).mpr hk) (fun r hr => Or.inl ⟨show r < nR M from hr, rfl, rfl⟩) (fun k hk => Or.inl ⟨(hV9 k).mp hk, rfl⟩) rfl rfl rfl (fun o h1 h2 => hW.2.2.1.2.2.2.2 o (by omega) h2)
  · exact (hW.cap (Or.inl (by decide))).add (fun z => by omega) (fun _ => by show nO M < 30; omega)
  · by_cases e : k = 3 ∧ i = nO M
    · rw [if_pos e, if_pos e]; show ([.int (nI (nO M)), .ref ql] : List Value) = [.int (nI (nO M)), .ref (if 10 = 3 ∧ 7 + nO M = nO M then q else if 10 = 10 ∧ 7 + nO M = 7 + nO M then ql else ja 10 (7 + nO M))]; rw [if_neg (fun z => absurd z.1 (by decide)), if_pos ⟨rfl, rfl⟩]
    · rw [if_neg e, if_neg e]
  · have hni : ¬ i = 7 + nO M := fun z => hnlV (by rw [← z]; exact hi)
    rw [if_neg hL0l, if_neg hni]
  · have hni : ¬ i = 7 + nO M := fun z => hnlV (by rw [← z]; exact hi)
    rw [if_neg hL0l, if_neg hL0l, if_neg hni]
  · rw [if_neg hL0l]
    by_cases e : i = 2
    · subst e; rw [if_pos rfl, fup_at]
      by_cases z : j = jn M E 2
      · rw [if_pos z, if_pos ⟨rfl, z⟩]
      · rw [if_neg z, if_neg (fun y => z y.2)]
    · rw [if_neg e, if_neg (fun y => e y.1)]
def liD (M : MS) (o : Nat) (g a : Int32) : MS := mset (mset (mset (mset M 12 (3 * o + nL M o) g) 13 (3 * o + nL M o) a) 14 (3 * o + nL M o) (-1)) 11 o (nI (nL M o + 1))
def liE (M : MS) (E : ES) (o : Nat) : ES := ecE E (7 + o) (capN (eC E (7 + o)) (nL M o))
theorem WJ.addli {G : gG} {d0 : Nat} {Rf : Nat → Prop} {ja : Nat → Nat → Nat} {M : MS} {E : ES} {Hb H : Heap} {q : Nat} (g a : Int32) (o : Nat) (hW : WJ G d0 Rf ja M E Hb) (ho : o < nO M) (hT : nL M o < 3)
    (hR : WR G d0 Rf (fun k' i' => if k' = 2 ∧ i' = 3 * o + nL M o then q else ja k' i') (fun k' i' => jV M k' i' ∨ (k' = 2 ∧ i' = 3 * o + nL M o)) (fun k' i' => if k' = 2 ∧ i' = 3 * o + nL M o then [.ref (ja 3 o), .int g, .int a, .null] else jF ja M E k' i') (jLV M) (fun i' => if i' = (7 + o) then jn M E (7 + o) + 1 else jn M E i') (fun i' => if i' = (7 + o) then capN (eC E (7 + o)) (jn M E (7 + o)) else eC E i') (fun i' j => if i' = (7 + o) then fup (jc ja E (7 + o)) (jn M E (7 + o)) q j else jc ja E i' j) H) :
    WJ G d0 Rf (fun k' i' => if k' = 2 ∧ i' = 3 * o + nL M o then q else ja k' i') (liD M o g a) (liE M E o) H := by
  have hc := hW.cnt
  have h10 := hc.O10
  have r12 : (liD M o g a) 12 = upd (M 12) (3 * o + nL M o) g := rfl
  have r13 : (liD M o g a) 13 = upd (M 13) (3 * o + nL M o) a := rfl
  have r14 : (liD M o g a) 14 = upd (M 14) (3 * o + nL M o) (-1) := rfl
  have r11 : (liD M o g a) 11 = upd (M 11) o (nI (nL M o + 1)) := rfl
  have hT1 : nL (liD M o g a) o = nL M o + 1 := by show (upd (M 11) o (nI (nL M o + 1)) o).toNatClampNeg = _; rw [upd_s, nI_clamp (by omega)]
  have hTn : ∀ o9, o9 ≠ o → nL (liD M o g a) o9 = nL M o9 := fun o9 h9 => by show (upd (M 11) o (nI (nL M o + 1)) o9).toNatClampNeg = _; rw [upd_n _ _ h9]; rfl
  have hV9 : ∀ i, VL (liD M o g a) i = true ↔ VL M i = true ∨ i = 3 * o + nL M o := fun i => by
    unfold VL
    rw [show nO (liD M o g a) = nO M from rfl, Bool.and_eq_true, Bool.and_eq_true, decide_eq_true_eq, decide_eq_true_eq, decide_eq_true_eq]
    by_cases z : i / 3 = o
    · rw [z, hT1]; omega
    · rw [hTn _ z]; omega
  have hVo : ¬ jV M 2 (3 * o + nL M o) := fun h => by have h9 : VL M (3 * o + nL M o) = true := h; unfold VL at h9; rw [Bool.and_eq_true, decide_eq_true_eq, decide_eq_true_eq, show (3 * o + nL M o) / 3 = o by omega] at h9; omega
  have hne : ∀ k i, jV M k i → ¬ (k = 2 ∧ i = 3 * o + nL M o) := fun k i hv e => hVo (by rw [← e.1, ← e.2]; exact hv)
  refine WJ.addG (κ := 2) (n := 3 * o + nL M o) (L0 := (7 + o)) (q := q) (NL := fun _ => False) hW hR (fun k i hv => (if_neg (hne k i hv))) (fun i hi => (if_neg (fun z => absurd z.1 (by decide)))) (if_pos ⟨rfl, rfl⟩) (fun k i hv => ?_) (fun k i hv => ?_) ?_ hVo (fun i hi => ?_) (fun i h => h.elim) (Or.inr (Or.inl ⟨by omega, by omega⟩)) (by exact jk_7 o) (fun k i hv => ?_) (fun i hi => ?_) (fun i h => h.elim) (fun i hi => ?_) (fun i j hi hj => ?_) ?_ ?_ ?_ ?_ (fun k i h => h) (fun k i => ?_) (fun i h => h.elim id (fun z => z.elim)) (fun i hi => ⟨?_, ?_, fun j hj => ?_⟩) (fun i h => h.elim)
  · match k, hv with
    | 0, h9 => exact Or.inl (show i = 0 from h9)
    | 1, h9 => exact Or.inl (show i = 0 from h9)
    | 2, h9 => exact ((hV9 i).mp h9).elim Or.inl (fun z => Or.inr ⟨rfl, z⟩)
    | 3, h9 => exact Or.inl (show i < nO M from h9)
    | 4, h9 => exact Or.inl (show i < nP M from h9)
    | 5, h9 => exact Or.inl (show i < nR M from h9)
    | 6, h9 => exact Or.inl (show i < nS M from h9)
    | 7, h9 => exact Or.inl (show i < nT M from h9)
    | 8, h9 => exact Or.inl (show i = 0 from h9)
    | _ + 9, h9 => exact (show False from h9).elim
  · match k, hv with
    | 0, h9 => exact (show i = 0 from (show i = 0 from h9))
    | 1, h9 => exact (show i = 0 from (show i = 0 from h9))
    | 2, h9 => exact (hV9 i).mpr (Or.inl h9)
    | 3, h9 => exact (show i < nO (liD M o g a) from (show i < nO M from h9))
    | 4, h9 => exact (show i < nP (liD M o g a) from (show i < nP M from h9))
    | 5, h9 => exact (show i < nR (liD M o g a) from (show i < nR M from h9))
    | 6, h9 => exact (show i < nS (liD M o g a) from (show i < nS M from h9))
    | 7, h9 => exact (show i < nT (liD M o g a) from (show i < nT M from h9))
    | 8, h9 => exact (show i = 0 from (show i = 0 from h9))
    | _ + 9, h9 => exact (show False from h9).elim
  · exact (hV9 _).mpr (Or.inr rfl)
  · exact Or.inl hi
  · match k, hv with
    | 0, hv => show [_, _, _, _, _, _, _, _] = [_, _, _, _, _, _, _, _]; rfl
    | 1, hv => show [_, _, _] = [_, _, _]; rfl
    | 2, hv => have hi : i ≠ 3 * o + nL M o := fun z => hne _ _ hv ⟨rfl, z⟩; show ([_, .int (liD M o g a 12 i), .int (liD M o g a 13 i), va_rf (jp _ 6 (liD M o g a 14 i))] : List Value) = [_, _, _, _]; rw [r12, r13, r14, upd_n _ _ hi, upd_n _ _ hi, upd_n _ _ hi]
    | 3, hv => show [_, _] = [_, _]; rfl
    | 4, hv => show [_, _, _] = [_, _, _]; rfl
    | 5, hv => show [_, _, _, _, _, _, _, _, _] = [_, _, _, _, _, _, _, _, _]; rfl
    | 6, hv => show [_, _, _] = [_, _, _]; rfl
    | 7, hv => show [_, _, _, _, _] = [_, _, _, _, _]; rfl
    | 8, hv => show [_, _, _, _, _, _] = [_, _, _, _, _, _]; rfl
    | _ + 9, hv => exact (show False from hv).elim
  · by_cases e : i = (7 + o)
    · rw [e, if_pos rfl]; rw [jn_7 (by omega), jn_7 (by omega)]; exact hT1
    · rw [if_neg e]
      match i, e with
      | 0, _ => show nS (liD M o g a) = nS M; rfl
      | 1, _ => show nT (liD M o g a) = nT M; rfl
      | 2, _ => show nO (liD M o g a) = nO M; rfl
      | 3, _ => show nP (liD M o g a) = nP M; rfl
      | 4, _ => show nR (liD M o g a) = nR M; rfl
      | 5, _ => show eN E 5 = eN E 5; rfl
      | 6, _ => show eN E 6 = eN E 6; rfl
      | i + 7, e =>
        show (if i + 7 < 17 then nL (liD M o g a) (i + 7 - 7) else eN E (i + 7)) = (if i + 7 < 17 then nL M (i + 7 - 7) else eN E (i + 7))
        rw [hTn _ (by omega)]
  · rw [jn_7 (by omega)]
    by_cases e : i = (7 + o)
    · rw [e, if_pos rfl]; show (if (7 + o) = (7 + o) then capN (eC E (7 + o)) (nL M o) else eC E (7 + o)) = capN (eC E (7 + o)) (nL M o); rw [if_pos rfl]
    · rw [if_neg e]; show (if i = (7 + o) then capN (eC E (7 + o)) (nL M o) else eC E i) = _; rw [if_neg e]
  · match i with
    | 0 => rfl
    | 1 => rfl
    | 2 => rfl
    | 3 => rfl
    | 4 => rfl
    | 5 => rfl
    | 6 => rfl
    | i + 7 => rfl
  · rw [jn_7 (by omega), je_7 (by omega)]
  · refine ⟨(show M 17 0 = nI (nR M) ∧ nR M ≤ 6 from hc.1), (show M 4 0 = nI (nS M) ∧ nS M ≤ 3 from hc.2.1), (show M 6 0 = nI (nT M) ∧ nT M ≤ 16 from hc.2.2.1), (show M 10 0 = nI (nO M) ∧ nO M ≤ 10 from hc.2.2.2.1), fun o9 h9 => ?_⟩
    by_cases z : o9 = o
    · rw [z, hT1, r11, upd_s]; exact ⟨rfl, by omega⟩
    · rw [hTn _ z, r11, upd_n _ _ z]; exact hc.2.2.2.2 o9 h9
  · exact hW.2.2.1.mono (Nat.le_refl _) (Nat.le_refl _) (Nat.le_refl _) (fun k hk => (hV9 k).mpr (Or.inl hk)) (fun r hr => Or.inl ⟨show r < nR M from hr, rfl, rfl⟩) (fun k hk => by by_cases z : k = 3 * o + nL M o; exact Or.inr (by rw [z, r14, upd_s]); exact Or.inl ⟨((hV9 k).mp hk).resolve_right z, by rw [r14, upd_n _ _ z]⟩) rfl rfl rfl (fun o9 h1 h2 => by rw [hTn _ (show o9 ≠ o from fun z => by have k9 : nO M ≤ o9 := h1; omega)]; exact hW.2.2.1.2.2.2.2 o9 h1 h2)
  · exact (hW.cap (Or.inr (Or.inl ⟨by omega, by omega⟩))).add (fun z => by omega) (fun _ => by rw [jn_7 (by omega)]; omega)
  · by_cases e : k = 2 ∧ i = 3 * o + nL M o
    · rw [if_pos e, if_pos e]; show ([.ref (ja 3 o), .int g, .int a, .null] : List Value) = [.ref (if 3 = 2 ∧ (3 * o + nL M o) / 3 = 3 * o + nL M o then q else ja 3 ((3 * o + nL M o) / 3)), .int (liD M o g a 12 (3 * o + nL M o)), .int (liD M o g a 13 (3 * o + nL M o)), va_rf (jp (fun k' i' => if k' = 2 ∧ i' = 3 * o + nL M o then q else ja k' i') 6 (liD M o g a 14 (3 * o + nL M o)))]; rw [r12, r13, r14, upd_s, upd_s, upd_s, jp_n, if_neg (fun z => absurd z.1 (by decide)), show (3 * o + nL M o) / 3 = o by omega]; rfl
    · rw [if_neg e, if_neg e]
  · rfl
  · rfl
  · by_cases e : i = (7 + o)
    · subst e; rw [if_pos rfl, fup_at]
      by_cases z : j = jn M E (7 + o)
      · rw [if_pos z, if_pos ⟨rfl, z⟩]
      · rw [if_neg z, if_neg (fun y => z y.2)]
    · rw [if_neg e, if_neg (fun y => e y.1)]
