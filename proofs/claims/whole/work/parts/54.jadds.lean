/-! THE WORLD GROWS: a tray, a robot, a station, an order, a line -/
theorem fup_at {f : Nat → Nat} {n q j : Nat} : fup f n q j = if j = n then q else f j := rfl
def trD (M : MS) (h g a : Int32) : MS := mset (mset (mset (mset M 7 (nT M) h) 8 (nT M) g) 9 (nT M) a) 6 0 (nI (nT M + 1))
def trE (M : MS) (E : ES) (a : Int32) : ES := eR_ (ecE E 1 (capN (eC E 1) (nT M))) (upd (eR E) (nT M) a)
theorem WJ.addtr {G : gG} {d0 : Nat} {Rf : Nat → Prop} {ja : Nat → Nat → Nat} {M : MS} {E : ES} {Hb H : Heap} {q : Nat} (h g a : Int32) (hW : WJ G d0 Rf ja M E Hb) (hT : nT M < 16)
    (hR : WR G d0 Rf (fun k' i' => if k' = 7 ∧ i' = nT M then q else ja k' i') (fun k' i' => jV M k' i' ∨ (k' = 7 ∧ i' = nT M)) (fun k' i' => if k' = 7 ∧ i' = nT M then [.int (nI (nT M)), .int h, .int g, .int a, .int a] else jF ja M E k' i') (jLV M) (fun i' => if i' = 1 then jn M E 1 + 1 else jn M E i') (fun i' => if i' = 1 then capN (eC E 1) (jn M E 1) else eC E i') (fun i' j => if i' = 1 then fup (jc ja E 1) (jn M E 1) q j else jc ja E i' j) H) :
    WJ G d0 Rf (fun k' i' => if k' = 7 ∧ i' = nT M then q else ja k' i') (trD M h g a) (trE M E a) H := by
  have hc := hW.cnt
  have r7 : (trD M h g a) 7 = upd (M 7) (nT M) h := rfl
  have r8 : (trD M h g a) 8 = upd (M 8) (nT M) g := rfl
  have r9 : (trD M h g a) 9 = upd (M 9) (nT M) a := rfl
  have rE : eR (trE M E a) = upd (eR E) (nT M) a := rfl
  have hT1 : nT (trD M h g a) = nT M + 1 := by show (upd (M 6) 0 (nI (nT M + 1)) 0).toNatClampNeg = _; rw [upd_s, nI_clamp (by omega)]
  have hVo : ¬ jV M 7 (nT M) := fun h => Nat.lt_irrefl _ (show nT M < nT M from h)
  have hne : ∀ k i, jV M k i → ¬ (k = 7 ∧ i = nT M) := fun k i hv e => hVo (by rw [← e.1, ← e.2]; exact hv)
  refine WJ.addG (κ := 7) (n := nT M) (L0 := 1) (q := q) (NL := fun _ => False) hW hR (fun k i hv => (if_neg (hne k i hv))) (fun i hi => (if_neg (fun z => absurd z.1 (by decide)))) (if_pos ⟨rfl, rfl⟩) (fun k i hv => ?_) (fun k i hv => ?_) ?_ hVo (fun i hi => ?_) (fun i h => h.elim) (Or.inl (by decide)) rfl (fun k i hv => ?_) (fun i hi => ?_) (fun i h => h.elim) (fun i hi => ?_) (fun i j hi hj => ?_) ?_ ?_ ?_ ?_ (fun k i h => h) (fun k i => ?_) (fun i h => h.elim id (fun z => z.elim)) (fun i hi => ⟨?_, ?_, fun j hj => ?_⟩) (fun i h => h.elim)
  · match k, hv with
    | 0, h9 => exact Or.inl (show i = 0 from h9)
    | 1, h9 => exact Or.inl (show i = 0 from h9)
    | 2, h9 => exact Or.inl (show VL M i = true from h9)
    | 3, h9 => exact Or.inl (show i < nO M from h9)
    | 4, h9 => exact Or.inl (show i < nP M from h9)
    | 5, h9 => exact Or.inl (show i < nR M from h9)
    | 6, h9 => exact Or.inl (show i < nS M from h9)
    | 7, h9 => exact (Nat.lt_succ_iff_lt_or_eq.mp (show i < nT M + 1 by rw [← hT1]; exact h9)).elim Or.inl (fun z => Or.inr ⟨rfl, z⟩)
    | 8, h9 => exact Or.inl (show i = 0 from h9)
    | _ + 9, h9 => exact (show False from h9).elim
  · match k, hv with
    | 0, h9 => exact (show i = 0 from (show i = 0 from h9))
    | 1, h9 => exact (show i = 0 from (show i = 0 from h9))
    | 2, h9 => exact (show VL (trD M h g a) i = true from (show VL M i = true from h9))
    | 3, h9 => exact (show i < nO (trD M h g a) from (show i < nO M from h9))
    | 4, h9 => exact (show i < nP (trD M h g a) from (show i < nP M from h9))
    | 5, h9 => exact (show i < nR (trD M h g a) from (show i < nR M from h9))
    | 6, h9 => exact (show i < nS (trD M h g a) from (show i < nS M from h9))
    | 7, h9 => show i < nT (trD M h g a); have k9 : i < nT M := h9; omega
    | 8, h9 => exact (show i = 0 from (show i = 0 from h9))
    | _ + 9, h9 => exact (show False from h9).elim
  · show nT M < nT (trD M h g a); omega
  · exact Or.inl hi
  · match k, hv with
    | 0, hv => show [_, _, _, _, _, _, _, _] = [_, _, _, _, _, _, _, _]; rfl
    | 1, hv => show [_, _, _] = [_, _, _]; rfl
    | 2, hv => show [_, _, _, _] = [_, _, _, _]; rfl
    | 3, hv => show [_, _] = [_, _]; rfl
    | 4, hv => show [_, _, _] = [_, _, _]; rfl
    | 5, hv => show [_, _, _, _, _, _, _, _, _] = [_, _, _, _, _, _, _, _, _]; rfl
    | 6, hv => show [_, _, _] = [_, _, _]; rfl
    | 7, hv => have hi : i ≠ nT M := fun z => hne _ _ hv ⟨rfl, z⟩; show ([.int (nI i), .int (trD M h g a 7 i), .int (trD M h g a 8 i), .int (trD M h g a 9 i), .int (eR (trE M E a) i)] : List Value) = [_, _, _, _, _]; rw [r7, r8, r9, rE, upd_n _ _ hi, upd_n _ _ hi, upd_n _ _ hi, upd_n _ _ hi]
    | 8, hv => show [_, _, _, _, _, _] = [_, _, _, _, _, _]; rfl
    | _ + 9, hv => exact (show False from hv).elim
  · by_cases e : i = 1
    · rw [e, if_pos rfl]; exact hT1
    · rw [if_neg e]
      match i, e with
      | 0, _ => show nS (trD M h g a) = nS M; rfl
      | 1, e => exact absurd rfl e
      | 2, _ => show nO (trD M h g a) = nO M; rfl
      | 3, _ => show nP (trD M h g a) = nP M; rfl
      | 4, _ => show nR (trD M h g a) = nR M; rfl
      | 5, _ => show eN E 5 = eN E 5; rfl
      | 6, _ => show eN E 6 = eN E 6; rfl
      | i + 7, _ => show (if i + 7 < 17 then nL (trD M h g a) (i + 7 - 7) else eN E (i + 7)) = (if i + 7 < 17 then nL M (i + 7 - 7) else eN E (i + 7)); rfl
  · by_cases e : i = 1
    · rw [e, if_pos rfl]; show (if 1 = 1 then capN (eC E 1) (nT M) else eC E 1) = capN (eC E 1) (nT M); rw [if_pos rfl]
    · rw [if_neg e]; show (if i = 1 then capN (eC E 1) (nT M) else eC E i) = _; rw [if_neg e]
  · match i with
    | 0 => rfl
    | 1 => rfl
    | 2 => rfl
    | 3 => rfl
    | 4 => rfl
    | 5 => rfl
    | 6 => rfl
    | i + 7 => rfl
  · rfl
  · exact ⟨(show M 17 0 = nI (nR M) ∧ nR M ≤ 6 from hc.1), (show M 4 0 = nI (nS M) ∧ nS M ≤ 3 from hc.2.1), ⟨by rw [hT1]; exact upd_s (M 6) 0 _, by omega⟩, (show M 10 0 = nI (nO M) ∧ nO M ≤ 10 from hc.2.2.2.1), hc.2.2.2.2⟩
  · exact hW.2.2.1.mono (by omega) (Nat.le_refl _) (Nat.le_refl _) (fun k hk => hk) (fun r hr => Or.inl ⟨show r < nR M from hr, rfl, rfl⟩) (fun k hk => Or.inl ⟨show VL M k = true from hk, rfl⟩) rfl rfl rfl hW.2.2.1.2.2.2.2
  · exact (hW.cap (Or.inl (by decide))).add (fun z => by omega) (fun _ => by show nT M < 30; omega)
  · by_cases e : k = 7 ∧ i = nT M
    · rw [if_pos e, if_pos e]; show ([.int (nI (nT M)), .int h, .int g, .int a, .int a] : List Value) = [.int (nI (nT M)), .int (trD M h g a 7 (nT M)), .int (trD M h g a 8 (nT M)), .int (trD M h g a 9 (nT M)), .int (eR (trE M E a) (nT M))]; rw [r7, r8, r9, rE, upd_s, upd_s, upd_s, upd_s]
    · rw [if_neg e, if_neg e]
  · rfl
  · rfl
  · by_cases e : i = 1
    · subst e; rw [if_pos rfl, fup_at]
      by_cases z : j = jn M E 1
      · rw [if_pos z, if_pos ⟨rfl, z⟩]
      · rw [if_neg z, if_neg (fun y => z y.2)]
    · rw [if_neg e, if_neg (fun y => e y.1)]
