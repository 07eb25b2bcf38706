/-! THE WORLD GROWS: a new object, one more element of its list -/
theorem jF_agree {ja ja1 : Nat → Nat → Nat} {M : MS} {E : ES} (hOK : jOK M E) (h1 : ∀ k i, jV M k i → ja1 k i = ja k i) (h2 : ∀ i, jLV M i → ja1 10 i = ja 10 i) : ∀ k i, jV M k i → jF ja1 M E k i = jF ja M E k i := by
  intro k i hv
  obtain ⟨hc, ⟨p1, p2, p3, p4, p5⟩, he, hcap⟩ := hOK
  have e0 : ja1 0 0 = ja 0 0 := h1 0 0 rfl
  have e1 : ja1 1 0 = ja 1 0 := h1 1 0 rfl
  have eL : ∀ i, i < 7 → ja1 10 i = ja 10 i := fun i hi => h2 i (Or.inl hi)
  have eo : ∀ o, o < nO M → ja1 3 o = ja 3 o := fun o ho => h1 3 o ho
  have et : ∀ x, okT M x → jp ja1 7 x = jp ja 7 x := fun x hx => by
    have := hc.T16
    rcases hx with rfl | ⟨t, ht, rfl⟩
    · rw [jp_n, jp_n]
    · rw [jp_s 7 (by omega), jp_s 7 (by omega), h1 7 t ht]
  have ek : ∀ x, okK M x → jp ja1 2 x = jp ja 2 x := fun x hx => by
    rcases hx with rfl | ⟨t, ht, rfl⟩
    · rw [jp_n, jp_n]
    · have := VL_lt hc ht
      rw [jp_s 2 (by omega), jp_s 2 (by omega), h1 2 t ht]
  have es : ∀ x, okN M x → jp ja1 6 x = jp ja 6 x := fun x hx => by
    have := hc.S3
    rcases hx with rfl | ⟨t, ht, rfl⟩
    · rw [jp_n, jp_n]
    · rw [jp_s 6 (by omega), jp_s 6 (by omega), h1 6 t ht]
  match k, hv with
  | 0, _ => show [_, _, _, _, _, _, _, _] = [_, _, _, _, _, _, _, _]; rw [e1, eL 4 (by omega), eL 5 (by omega), eL 6 (by omega)]
  | 1, _ => rfl
  | 2, hv =>
    have ho : i / 3 < nO M := by
      have hv : VL M i = true := hv
      unfold VL at hv
      rw [Bool.and_eq_true, decide_eq_true_eq] at hv
      exact hv.1
    show [_, _, _, _] = [_, _, _, _]
    rw [eo _ ho, es _ (p2 i hv)]
  | 3, hv =>
    have hv : i < nO M := hv
    have := hc.O10
    show [_, _] = [_, _]
    rw [h2 (7 + i) (Or.inr (Or.inl (by omega)))]
  | 4, hv =>
    obtain ⟨⟨t, ht, a⟩, o, ho, b⟩ := p3 i hv
    have := hc.T16
    have := hc.O10
    show [_, _, _] = [_, _, _]
    rw [a, b, ix_nI (by omega), ix_nI (by omega), h1 7 t ht, eo o ho]
  | 5, hv =>
    show [_, _, _, _, _, _, _, _, _] = [_, _, _, _, _, _, _, _, _]
    rw [et _ (p1 i hv).1, ek _ (p1 i hv).2]
  | 6, hv =>
    have hv : i < nS M := hv
    show [_, _, _] = [_, _, _]
    rw [h2 (17 + i) (Or.inr (Or.inr (by omega)))]
  | 7, _ => rfl
  | 8, _ => show [_, _, _, _, _, _] = [_, _, _, _, _, _]; rw [e0, eL 0 (by omega), eL 1 (by omega), eL 2 (by omega), eL 3 (by omega)]
  | k + 9, hv => exact hv.elim
theorem WJ.grow {G : gG} {d0 : Nat} {Rf : Nat → Prop} {ja ja1 : Nat → Nat → Nat} {M M' : MS} {E E' : ES} {Hb H : Heap} {V1 : Nat → Nat → Prop} {F1 : Nat → Nat → List Value} {LV1 : Nat → Prop} {ln1 cp1 : Nat → Nat} {lc1 : Nat → Nat → Nat} (hW : WJ G d0 Rf ja M E Hb) (hR : WR G d0 Rf ja1 V1 F1 LV1 ln1 cp1 lc1 H) (h1 : ∀ k i, jV M k i → ja1 k i = ja k i) (h2 : ∀ i, jLV M i → ja1 10 i = ja 10 i)
    (hV : ∀ k i, jV M' k i → V1 k i ∧ ((jV M k i ∧ F1 k i = jF ja M E k i ∧ jF ja1 M' E' k i = jF ja1 M E k i) ∨ F1 k i = jF ja1 M' E' k i))
    (hL : ∀ i, jLV M' i → LV1 i ∧ jn M' E' i = ln1 i ∧ eC E' i = cp1 i ∧ ∀ j, j < ln1 i → jc ja1 E' i j = lc1 i j) (hOK : jOK M' E') : WJ G d0 Rf ja1 M' E' H := by
  refine ⟨hR.cg (fun k i hv => ?_) (fun i hi => ?_), hOK⟩
  · obtain ⟨a, b⟩ := hV k i hv
    refine ⟨a, ?_⟩
    rcases b with ⟨c, d, e⟩ | b
    · rw [d, e, jF_agree hW.2 h1 h2 k i c]
    · exact b.symm
  · obtain ⟨a, b, c, d⟩ := hL i hi
    exact ⟨a, b, c, d⟩
/-- an element's address under the new names -/
theorem WJ.jc1 {G : gG} {d0 : Nat} {Rf : Nat → Prop} {ja ja1 : Nat → Nat → Nat} {M : MS} {E : ES} {Hb : Heap} (hW : WJ G d0 Rf ja M E Hb) (h1 : ∀ k i, jV M k i → ja1 k i = ja k i) {i j : Nat} (hi : jLV M i) (hj : j < jn M E i) : jc ja1 E i j = jc ja E i j := h1 _ _ (hW.el hi hj)
def ecE (E : ES) (i c : Nat) : ES := eL_ E (eN E) (eL E) (fun i' => if i' = i then c else eC E i')
def pkD (M : MS) (t k : Nat) : MS := mset (mset (mset (mset M 35 (nP M) (nI t)) 36 (nP M) (nI (k / 3))) 37 (nP M) (M 1 0)) 34 0 (nI (nP M + 1))
def up4 (ja : Nat → Nat → Nat) (κ n q : Nat) : Nat → Nat → Nat := fun k' i' => if k' = κ ∧ i' = n then q else ja k' i'
theorem pkD_n {M : MS} {t k j : Nat} (h1 : j ≠ 34) (h2 : j ≠ 35) (h3 : j ≠ 36) (h4 : j ≠ 37) : pkD M t k j = M j := by
  unfold pkD
  rw [mset_n _ _ _ h1, mset_n _ _ _ h4, mset_n _ _ _ h3, mset_n _ _ _ h2]
theorem pkD_P {M : MS} {t k : Nat} (hp : nP M < 1500) : nP (pkD M t k) = nP M + 1 := by
  show (upd (M 34) 0 (nI (nP M + 1)) 0).toNatClampNeg = _
  rw [upd_s, nI_clamp (by omega)]
theorem WJ.pick {G : gG} {d0 : Nat} {Rf : Nat → Prop} {ja : Nat → Nat → Nat} {M : MS} {E : ES} {Hb H : Heap} {t k q : Nat} (hW : WJ G d0 Rf ja M E Hb) (ht : t < nT M) (hk : VL M k = true) (hp : nP M < 1500)
    (hR : WR G d0 Rf (fun k' i' => if k' = 4 ∧ i' = nP M then q else ja k' i') (fun k' i' => jV M k' i' ∨ (k' = 4 ∧ i' = nP M)) (fun k' i' => if k' = 4 ∧ i' = nP M then [.ref (ja 7 t), .ref (ja 3 (k / 3)), .int (M 1 0)] else jF ja M E k' i') (jLV M) (fun i' => if i' = 3 then jn M E 3 + 1 else jn M E i') (fun i' => if i' = 3 then capN (eC E 3) (jn M E 3) else eC E i') (fun i' j => if i' = 3 then fup (jc ja E 3) (jn M E 3) q j else jc ja E i' j) H) :
    WJ G d0 Rf (up4 ja 4 (nP M) q) (pkD M t k) (ecE E 3 (capN (eC E 3) (nP M))) H := by
  have hP := pkD_P (t := t) (k := k) hp
  have hc := hW.cnt
  have h16 := hc.T16
  have hO := hc.O10
  have hko : k / 3 < nO M := by
    unfold VL at hk
    rw [Bool.and_eq_true, decide_eq_true_eq] at hk
    exact hk.1
  have hne : ∀ k' i', jV M k' i' → ¬ (k' = 4 ∧ i' = nP M) := fun k' i' hv e => by
    rw [e.1, e.2] at hv
    exact Nat.lt_irrefl _ (show nP M < nP M from hv)
  have h1 : ∀ k' i', jV M k' i' → up4 ja 4 (nP M) q k' i' = ja k' i' := fun k' i' hv => if_neg (hne k' i' hv)
  have h2 : ∀ i, jLV M i → up4 ja 4 (nP M) q 10 i = ja 10 i := fun i _ => if_neg (fun e => absurd e.1 (by decide))
  have r35 : pkD M t k 35 = upd (M 35) (nP M) (nI t) := rfl
  have r36 : pkD M t k 36 = upd (M 36) (nP M) (nI (k / 3)) := rfl
  have r37 : pkD M t k 37 = upd (M 37) (nP M) (M 1 0) := rfl
  have hjn : ∀ i, i ≠ 3 → jn (pkD M t k) (ecE E 3 (capN (eC E 3) (nP M))) i = jn M E i := fun i hi => by
    match i, hi with
    | 0, _ => show nS (pkD M t k) = nS M; rfl
    | 1, _ => show nT (pkD M t k) = nT M; rfl
    | 2, _ => show nO (pkD M t k) = nO M; rfl
    | 3, h => exact absurd rfl h
    | 4, _ => show nR (pkD M t k) = nR M; rfl
    | 5, _ => show eN E 5 = eN E 5; rfl
    | 6, _ => show eN E 6 = eN E 6; rfl
    | i + 7, _ => show (if i + 7 < 17 then nL (pkD M t k) (i + 7 - 7) else eN E (i + 7)) = (if i + 7 < 17 then nL M (i + 7 - 7) else eN E (i + 7)); rfl
  refine WJ.grow hW hR h1 h2 (fun k' i' hv => ?_) (fun i hi => ⟨hi, ?_, ?_, fun j hj => ?_⟩) ?_
  · by_cases e : k' = 4 ∧ i' = nP M
    · obtain ⟨rfl, rfl⟩ := e
      refine ⟨Or.inr ⟨rfl, rfl⟩, Or.inr ?_⟩
      show (if 4 = 4 ∧ nP M = nP M then _ else _) = ([.ref (up4 ja 4 (nP M) q 7 (ix (pkD M t k 35 (nP M)))), .ref (up4 ja 4 (nP M) q 3 (ix (pkD M t k 36 (nP M)))), .int (pkD M t k 37 (nP M))] : List Value)
      rw [if_pos ⟨rfl, rfl⟩, r35, r36, r37, upd_s, upd_s, upd_s, ix_nI (by omega), ix_nI (by omega), h1 7 t ht, h1 3 (k / 3) hko]
    · have hv0 : jV M k' i' := by
        match k', hv, e with
        | 0, h, _ => exact (show i' = 0 from h)
        | 1, h, _ => exact (show i' = 0 from h)
        | 2, h, _ => exact (show VL M i' = true from h)
        | 3, h, _ => exact (show i' < nO M from h)
        | 4, h, e =>
          have h : i' < nP (pkD M t k) := h
          rw [hP] at h
          show i' < nP M
          have : i' ≠ nP M := fun z => e ⟨rfl, z⟩
          omega
        | 5, h, _ => exact (show i' < nR M from h)
        | 6, h, _ => exact (show i' < nS M from h)
        | 7, h, _ => exact (show i' < nT M from h)
        | 8, h, _ => exact (show i' = 0 from h)
        | _ + 9, h, _ => exact (show False from h).elim
      refine ⟨Or.inl hv0, Or.inl ⟨hv0, if_neg e, ?_⟩⟩
      match k', e with
      | 0, _ => show [_, _, _, _, _, _, _, _] = [_, _, _, _, _, _, _, _]; rfl
      | 1, _ => show [_, _, _] = [_, _, _]; rfl
      | 2, _ => show [_, _, _, _] = [_, _, _, _]; rfl
      | 3, _ => show [_, _] = [_, _]; rfl
      | 4, e =>
        have hi : i' ≠ nP M := fun z => e ⟨rfl, z⟩
        show ([.ref (up4 ja 4 (nP M) q 7 (ix (pkD M t k 35 i'))), .ref (up4 ja 4 (nP M) q 3 (ix (pkD M t k 36 i'))), .int (pkD M t k 37 i')] : List Value) = ([.ref (up4 ja 4 (nP M) q 7 (ix (M 35 i'))), .ref (up4 ja 4 (nP M) q 3 (ix (M 36 i'))), .int (M 37 i')] : List Value)
        rw [r35, r36, r37, upd_n _ _ hi, upd_n _ _ hi, upd_n _ _ hi]
      | 5, _ => show [_, _, _, _, _, _, _, _, _] = [_, _, _, _, _, _, _, _, _]; rfl
      | 6, _ => show [_, _, _] = [_, _, _]; rfl
      | 7, _ => show [_, _, _, _, _] = [_, _, _, _, _]; rfl
      | 8, _ => show [_, _, _, _, _, _] = [_, _, _, _, _, _]; rfl
      | _ + 9, e => exact hv0.elim
  · by_cases e : i = 3
    · subst e; rw [if_pos rfl]; exact hP
    · rw [if_neg e]; exact hjn i e
  · by_cases e : i = 3
    · subst e; rfl
    · rw [if_neg e]; exact if_neg e
  · by_cases e : i = 3
    · subst e
      rw [if_pos rfl] at hj ⊢
      show up4 ja 4 (nP M) q 4 j = (if j = nP M then q else jc ja E 3 j)
      have hj : j < nP M + 1 := hj
      by_cases z : j = nP M
      · rw [if_pos z]; exact if_pos ⟨rfl, z⟩
      · rw [if_neg z]; exact h1 4 j (show j < nP M by omega)
    · rw [if_neg e] at hj ⊢
      exact hW.jc1 h1 hi hj
  · obtain ⟨o1, ⟨p1, p2, p3, p4, p5⟩, o3, o4⟩ := hW.2
    refine ⟨((((o1.set rfl).set rfl).set rfl).set rfl), ⟨p1, p2, fun i hi => ?_, ?_, p5⟩, fun i hi j hj => ?_, fun i hi => ?_⟩
    · rw [hP] at hi
      rw [r35, r36]
      by_cases z : i = nP M
      · subst z; rw [upd_s, upd_s]; exact ⟨⟨t, ht, rfl⟩, k / 3, hko, rfl⟩
      · rw [upd_n _ _ z, upd_n _ _ z]; exact p3 i (by omega)
    · rw [hP]; exact upd_s (M 34) 0 (nI (nP M + 1))
    · by_cases e : i = 3
      · subst e
        show j < nP (pkD M t k)
        exact hj
      · rw [hjn i e] at hj
        have := o3 i hi j hj
        match i, e, this with
        | 0, _, h => exact (show j < nS M from h)
        | 1, _, h => exact (show j < nT M from h)
        | 2, _, h => exact (show j < nO M from h)
        | 3, e, _ => exact absurd rfl e
        | 4, _, h => exact (show j < nR M from h)
        | 5, _, h => exact (show eL E 5 j < nR M from h)
        | 6, _, h => exact (show eL E 6 j < nR M from h)
        | i + 7, _, h => exact (show VL M (je E (i + 7) j) = true from h)
    · by_cases e : i = 3
      · subst e
        have := o4 3 hi
        show capOK 3 (nP (pkD M t k)) (capN (eC E 3) (nP M))
        rw [hP]
        exact this.add (fun _ => hp) (fun z => absurd rfl z)
      · rw [hjn i e]
        show capOK i _ (if i = 3 then _ else eC E i)
        rw [if_neg e]
        exact o4 i hi
def gP (n : Nat) : Nat := 3 + addS (capI n) n
theorem df_X4 : ∀ j, j < 3 → defaultValue (tyX4 j) = vp_V [.null, .null, .int 0] j := fun j hj => by
  have : j = 0 ∨ j = 1 ∨ j = 2 := by omega
  rcases this with rfl | rfl | rfl <;> rfl
/-- the picks' names may change -/
def J4 (ja ja1 : Nat → Nat → Nat) : Prop := ∀ k i, ¬ k = 4 → ja1 k i = ja k i
theorem J4.rf {ja : Nat → Nat → Nat} : J4 ja ja := fun _ _ _ => rfl
theorem J4.tr {a b c : Nat → Nat → Nat} (h : J4 a b) (h2 : J4 b c) : J4 a c := fun k i q => (h2 k i q).trans (h k i q)
theorem J4.up {ja : Nat → Nat → Nat} {n q : Nat} : J4 ja (up4 ja 4 n q) := fun k i h => if_neg (fun e => h e.1)
def EP (E E2 : ES) : Prop := eS E2 = eS E ∧ eR E2 = eR E ∧ eD E2 = eD E ∧ eN E2 = eN E ∧ eL E2 = eL E ∧ ∀ i, ¬ i = 3 → eC E2 i = eC E i
theorem EP.rf {E : ES} : EP E E := ⟨rfl, rfl, rfl, rfl, rfl, fun _ _ => rfl⟩
theorem EP.tr {E E1 E2 : ES} (h : EP E E1) (h2 : EP E1 E2) : EP E E2 := ⟨h2.1.trans h.1, h2.2.1.trans h.2.1, h2.2.2.1.trans h.2.2.1, h2.2.2.2.1.trans h.2.2.2.1, h2.2.2.2.2.1.trans h.2.2.2.2.1, fun i hi => (h2.2.2.2.2.2 i hi).trans (h.2.2.2.2.2 i hi)⟩
theorem EP.ec {E : ES} {c : Nat} : EP E (ecE E 3 c) := ⟨rfl, rfl, rfl, rfl, rfl, fun _ h => if_neg h⟩
theorem EP.ek {E E2 : ES} (h : EP E E2) : EK E E2 := ⟨h.2.1, h.2.2.1, fun i _ => ⟨by rw [h.2.2.2.1], by rw [h.2.2.2.2.1]⟩, fun i _ _ c => h.2.2.2.2.2 i c⟩
/-- the class's pick, as the reference tells it -/
def pkX (M : MS) (t k : Nat) : MS := pkD (mset (mset M 9 t (M 9 t - 1)) 13 k (M 13 k - 1)) t k
theorem pkX_C {M : MS} {k t : Nat} : ∀ j, gh j = false → pkC M k t j = pkX M t k j := by
  intro j hj
  have h33 : j ≠ 33 := fun q => by rw [q] at hj; cases hj
  have e : pkX M t k = mset (mset (mset (mset (mset (mset M 9 t (M 9 t - 1)) 13 k (M 13 k - 1)) 35 (nP M) (nI t)) 36 (nP M) (nI (k / 3))) 37 (nP M) (M 1 0)) 34 0 (nI (nP M + 1)) := rfl
  rw [e]
  unfold pkC
  by_cases a : j = 34
  · subst a; rfl
  · rw [mset_n _ _ _ a, mset_n _ _ _ a]
    by_cases b : j = 37
    · subst b; rfl
    · rw [mset_n _ _ _ b, mset_n _ _ _ b]
      by_cases c : j = 36
      · subst c; rfl
      · rw [mset_n _ _ _ c, mset_n _ _ _ c]
        by_cases d : j = 35
        · subst d; rfl
        · rw [mset_n _ _ _ d, mset_n _ _ _ d, mset_n _ _ _ h33]
theorem lv_bec {B : Nat} {M : MS} {r : Nat} (h3 : M 20 r = 3) : lvM M r = becF M r 4 := by
  unfold lvM
  rw [if_neg (by rw [h3]; decide)]
  have e := bec_set (M := M) (r := r) (x := 4) (v := M 21 r) (w := -1) (if_neg (by decide)) (if_neg (by decide))
  rw [e, show mset (mset M 22 r (-1)) 21 r (M 21 r) = mset M 22 r (-1) from mset_id (mset M 22 r (-1)) 21 r]
section JJ
variable {p : Program} {l : Launch} {e : Env} {R : Room} {s : State} {m : MethodId} {args : Array Value} {below : List Frame} {meth : Method} {c : Code} {H : Heap} {locs : List Loc} {cells slots : Nat} {Q : State → Prop}
variable {pc : Nat} {ls : Array Slot} {rest st0 : List Value} {a : Array Value} {mc ms : Nat} {G : gG} {d0 : Nat} {Rf : Nat → Prop} {M' : MS}
abbrev JE : Type := (Nat → Nat → Nat) × ES
theorem jcl_vJ {P : JE → Prop} (hr : va_Run p l e R s m args below meth c H locs cells slots mc ms (F0 m pc ls st0) rest (va_Qv (S := JE) P (fun u t => WJ G d0 Rf u.1 M' u.2 t.heap) (jA Rf) a) (jA Rf)) (hS : va_S (jA Rf) s.heap H locs)
    (kk : ∀ (ja : Nat → Nat → Nat) (E2 : ES), P (ja, E2) → ∀ (H1 : Heap) (locs1 : List Loc), WJ G d0 Rf ja M' E2 H1 → va_S (jA Rf) s.heap H1 locs1 → W p l e R s m args below meth c H1 locs1 (cells + mc) (slots + ms) Q (F0 m (pc + 3) ls rest)) : W p l e R s m args below meth c H locs cells slots Q (F0 m pc ls st0) :=
  va_callv hr hS (fun _ _ h => h) (fun _ h => h) (fun u t H1 locs1 ht _ hp hB _ _ hS1 => kk u.1 u.2 hp H1 locs1 (by rw [← ht]; exact hB) hS1)
end JJ
theorem bec_cg {M M' : MS} {r : Nat} {x : Int32} (h : ∀ j, gh j = false → M' j = M j) : ∀ j, gh j = false → becF M' r x j = becF M r x j := by
  intro j hj
  unfold becF
  rw [h 21 rfl, h 22 rfl]
  by_cases a : j = 21
  · subst a; rw [mset_s, mset_s]; show upd (M' 21) r _ = upd (M 21) r _; rw [h 21 rfl]
  · rw [mset_n _ _ _ a, mset_n _ _ _ a]
    by_cases b : j = 22
    · subst b; rw [mset_s, mset_s]; show upd (M' 22) r _ = upd (M 22) r _; rw [h 22 rfl]
    · rw [mset_n _ _ _ b, mset_n _ _ _ b]
      by_cases c : j = 24
      · subst c; rw [mset_s, mset_s]; show upd (M' 24) r _ = upd (M 24) r _; rw [h 24 rfl]
      · rw [mset_n _ _ _ c, mset_n _ _ _ c]
        by_cases d : j = 23
        · subst d; rw [mset_s, mset_s]; show upd (M' 23) r _ = upd (M 23) r _; rw [h 23 rfl]
        · rw [mset_n _ _ _ d, mset_n _ _ _ d]
          by_cases f : j = 20
          · subst f; rw [mset_s, mset_s, h 20 rfl]
          · rw [mset_n _ _ _ f, mset_n _ _ _ f]; exact h j hj
set_option maxHeartbeats 4000000 in
set_option maxRecDepth 100000 in
theorem cJ_X8_pick (l : Launch) (G : gG) (d0 mi : Nat) (Rf : Nat → Prop) (ja : Nat → Nat → Nat) (M : MS) (E : ES) (r : Nat) (t : Nat) (k : Nat) (h_r : r < nR M) (h_t : t < nT M) (h_k : VL M k = true) (h_3 : M 20 r = 3) (e21 : M 21 r = nI t) (e22 : M 22 r = nI k) (hp5 : nP M < 1500) : Met l yX8_pick (wB yX8_pick cX8_pick 4 none) (rmL 8 2 (gP (nP M))) (va_Pc [.ref (ja 8 0), .ref (ja 5 r), .ref (ja 7 t), .ref (ja 2 k)] (jB G d0 mi Rf ja M E)) (va_Qv (S := JE) (fun u9 => J4 ja u9.1 ∧ EP E u9.2) (fun u9 z9 => WJ G d0 Rf u9.1 (pkF M r) u9.2 z9.heap) (jA Rf)) 2 (gP (nP M)) (jA Rf) := by
  refine st_N (own := RX8) (by decide +kernel) rfl (Nat.le_of_ble_eq_true rfl) ?_
  intro p e s m below meth c ls args Q hQ hC hr hlk hnm hl hP
  obtain ⟨hW, hX, hRf⟩ := hP
  have hK := hX.1
  have hx := hC.1
  have hb := hC.2.1
  have hl : lv_has ls 4 [(0, .ref (ja 8 0)), (1, .ref (ja 5 r)), (2, .ref (ja 7 t)), (3, .ref (ja 2 k))] := hl
  obtain ⟨H, locs, hHe, hLe⟩ : ∃ (H : Heap) (locs : List Loc), H = s.heap ∧ locs = [] := ⟨_, _, rfl, rfl⟩
  rw [← hHe] at hW
  have hS : va_S (jA Rf) s.heap H locs := by rw [hHe, hLe]; exact va_S.rf
  suffices hgo : W p l e (rmL 8 2 (gP (nP M))) s m args below meth c H locs 0 0 Q (F0 m 0 ls []) by
    rw [hHe, hLe] at hgo
    exact hgo
  clear hHe hLe
  have hk30 := VL_lt hW.cnt h_k
  have h16 := hW.cnt.T16
  have hgp3_ : 3 ≤ gP (nP M) := by unfold gP; omega
  have e9_ : pkX M t k 9 t = M 9 t - 1 := upd_s _ _ _
  have e13_ : pkX M t k 13 k = M 13 k - 1 := upd_s _ _ _
  refine lv_aload_n hx hb dX8_pick_0 rfl (lv_at hl 2 rfl) ?_
  refine lv_dup hx hb dX8_pick_1 rfl ?_
  refine r1_get hC hK.1 (hW.ob (show jV M 7 t from h_t)) lay_X7 rfl 3 (by decide) fl_X8_126 (fun x hx => hx) (v := .int (M 9 t)) rfl dX8_pick_2 ?_
  refine lv_iconst (v := 1) hx hb dX8_pick_5 (by decide) ?_
  refine lv_isub hx hb dX8_pick_6 ?_
  refine jp_r9 hC hK hW hS (show t < nT M from h_t) fl_X8_126 dX8_pick_7 (fun H locs hW hS => ?_)
  refine lv_aload_n hx hb dX8_pick_10 rfl (lv_at hl 3 rfl) ?_
  refine lv_dup hx hb dX8_pick_11 rfl ?_
  refine r1_get hC hK.1 (hW.ob (show jV (mset M 9 t ((M 9 t) - 1)) 2 k from h_k)) lay_X2 rfl 2 (by decide) fl_X8_182 (fun x hx => hx) (v := .int (M 13 k)) rfl dX8_pick_12 ?_
  refine lv_iconst (v := 1) hx hb dX8_pick_15 (by decide) ?_
  refine lv_isub hx hb dX8_pick_16 ?_
  refine jp_r13 hC hK hW hS (show VL (mset M 9 t ((M 9 t) - 1)) k = true from h_k) fl_X8_182 dX8_pick_17 (fun H locs hW hS => ?_)
  refine lv_aload_n hx hb dX8_pick_20 rfl (lv_at hl 0 rfl) ?_
  refine r1_get hC hK.1 (hW.ob (show jV (mset (mset M 9 t ((M 9 t) - 1)) 13 k ((M 13 k) - 1)) 8 0 from rfl)) lay_X8 rfl 4 (by decide) fl_X8_29 (fun x hx => hx) (v := .ref (ja 10 3)) rfl dX8_pick_21 ?_
  have hsz0_ := hS.1
  refine r2_new hC hK hS lay_X4 tyX4 tyX4_ok cl_X8_273 is_X4 ini_X4 (ci := 4) rfl (fs := [.null, .null, .int 0]) df_X4 (by show 0 + 1 ≤ 2; omega) (by show 0 + 3 ≤ gP (nP M); omega) dX8_pick_24 (fun q H1 hq hat hz1_ hb9 hS => ?_)
  have hnq : ∀ z : Nat, H.size ≤ z → jA Rf z := fun z hz hr9 => by have := hRf z hr9; omega
  have hWb := hW
  have hW := hWb.kept (H1 := H1) (fun z hz _ => hb9 z hz)
  refine lv_dup hx hb dX8_pick_27 rfl ?_
  refine lv_aload_n hx hb dX8_pick_28 rfl (lv_at hl 2 rfl) ?_
  refine lv_aload_n hx hb dX8_pick_29 rfl (lv_at hl 3 rfl) ?_
  refine r1_get hC hK.1 (hW.ob (show jV (mset (mset M 9 t ((M 9 t) - 1)) 13 k ((M 13 k) - 1)) 2 k from h_k)) lay_X2 rfl 0 (by decide) fl_X8_309 (fun x hx => hx) (v := .ref (ja 3 (k / 3))) rfl dX8_pick_30 ?_
  refine lv_aload_n hx hb dX8_pick_33 rfl (lv_at hl 0 rfl) ?_
  refine r1_get hC hK.1 (hW.ob (show jV (mset (mset M 9 t ((M 9 t) - 1)) 13 k ((M 13 k) - 1)) 8 0 from rfl)) lay_X8 rfl 5 (by decide) fl_X8_32 (fun x hx => hx) (v := .int (M 1 0)) rfl dX8_pick_34 ?_
  have hA9 : ∀ z, rvA q H1.size z → jA Rf z := fun z h => hnq z (h.elim (fun e9 => by omega) (fun e9 => by omega))
  refine va_callv (run_I hC (cJ_X4_init l G q H1.size (ja 7 t) (ja 3 (k / 3)) (M 1 0)) (As := [.ref (ja 7 t), .ref (ja 3 (k / 3)), .int (M 1 0)]) (rest := [.ref q, .ref (ja 10 3)]) rfl rfl ml_X8_310 im_X4_init ini_X4 cd_X4_init rfl na_X4_init vB_blind (fun U hU hW => ⟨by rw [hU], by rw [hU]; exact hat, hK.warm hW⟩) hl.1 (Nat.le_of_ble_eq_true rfl) ⟨Nat.le_of_ble_eq_true rfl, Nat.le_of_ble_eq_true rfl⟩ ⟨by show 0 + 1 + 0 ≤ 2; omega, by show 0 + 3 + 0 ≤ gP (nP M); omega⟩ rfl dX8_pick_37) hS (fun z _ h => hA9 z h) hA9 (fun _ tt H2 locs2 ht_ al_ _ hB_ hz2_ oq_ hS => ?_)
  rw [ht_] at hB_
  have hb9 : ∀ z : Nat, z < H.size → H2[z]? = H[z]? := fun z hz => (oq_ z (by omega) (fun h => h.elim (fun e9 => by omega) (fun e9 => by omega))).trans (hb9 z hz)
  have hW := hWb.kept (H1 := H2) (fun z hz _ => hb9 z hz)
  have hPn : nP (mset (mset M 9 t (M 9 t - 1)) 13 k (M 13 k - 1)) = nP M := rfl
  have hR := WR.new hWb.1 (k := 4) (i := nP M) (by decide) hq (hnq q (by omega)) hB_ hb9 (fun h => Nat.lt_irrefl _ (show nP M < nP M from h))
  have hcap := hWb.cap (i := 3) (Or.inl (by decide))
  have hcI : eC E 3 = capI (nP M) := by have k_ := hcap.2; rw [if_pos rfl] at k_; exact k_.1
  have hgp : addS (eC E 3) (nP M) = gP (nP M) - 3 := by unfold gP; rw [hcI]; omega
  have hgp3 : 3 ≤ gP (nP M) := by unfold gP; omega
  have hac := addC_le (cp := eC E 3) (n := nP M)
  refine jw_add hC hX hRf hR (fun k9 q9 h => h.elim (fun h => jV_lt h) (fun h => by omega)) hS (i := 3) (x := q) (Or.inl (by decide)) (fun j hj => ⟨4, j, by unfold jo; omega, Or.inl (show j < nP M from hj), (if_neg (fun e9 => by have : j < nP M := hj; omega)).symm⟩) ⟨4, nP M, by unfold jo; omega, Or.inr ⟨rfl, rfl⟩, (if_pos ⟨rfl, rfl⟩).symm⟩ (by have k_ := hcap.le; exact hcap.1.elim (fun h => Or.inl h) (fun h => Or.inr ⟨h.1, h.2, k_⟩)) ml_X8_92 hl.1 (Nat.le_of_ble_eq_true rfl) ⟨Nat.le_of_ble_eq_true rfl, Nat.le_of_ble_eq_true rfl⟩ ⟨by show 0 + 1 + addC (eC E 3) (nP M) ≤ 2; omega, by show 0 + 3 + addS (eC E 3) (nP M) ≤ gP (nP M); omega⟩ dX8_pick_40 (fun rz_ H locs w hS _ => ?_)
  have hW := WJ.pick hWb (show t < nT (mset (mset M 9 t (M 9 t - 1)) 13 k (M 13 k - 1)) from h_t) (show VL (mset (mset M 9 t (M 9 t - 1)) 13 k (M 13 k - 1)) k = true from h_k) hp5 w
  clear w hR hB_ hb9 hWb
  have hW : WJ G d0 Rf (up4 ja 4 (nP M) q) (pkX M t k) (ecE E 3 (capN (eC E 3) (nP M))) H := hW
  obtain ⟨ja0, hja0⟩ : ∃ z, z = ja := ⟨_, rfl⟩
  have hj4 : J4 ja0 (up4 ja 4 (nP M) q) := by rw [hja0]; exact J4.up
  obtain ⟨ja9, hja9⟩ : ∃ z, z = up4 ja 4 (nP M) q := ⟨_, rfl⟩
  rw [← hja9] at hj4 hW
  rw [← hja0] at hl
  have hl : lv_has ls 4 [(0, .ref (ja9 8 0)), (1, .ref (ja9 5 r)), (2, .ref (ja9 7 t)), (3, .ref (ja9 2 k))] := by rw [hj4 8 0 (by decide), hj4 5 r (by decide), hj4 7 t (by decide), hj4 2 k (by decide)]; exact hl
  clear hja9
  obtain ⟨ja, hja⟩ : ∃ z, z = ja9 := ⟨_, rfl⟩
  rw [← hja] at hl hW hj4
  refine lv_pop hx hb dX8_pick_43 rfl ?_
  refine lv_aload_n hx hb dX8_pick_44 rfl (lv_at hl 2 rfl) ?_
  refine r1_get hC hK.1 (hW.ob (show jV (pkX M t k) 7 t from h_t)) lay_X7 rfl 3 (by decide) fl_X8_126 (fun x hx => hx) (v := .int ((pkX M t k) 9 t)) rfl dX8_pick_45 ?_
  refine lv_if_eq (tgt := 58) hx hb dX8_pick_48 (by decide) (fun c_1t => ?_) (fun c_1f => ?_)
  · refine lv_aload_n hx hb dX8_pick_58 rfl (lv_at hl 1 rfl) ?_
    refine jcl_v (run_V hC (cJ_X5_leaveLine l G d0 mi Rf ja (pkX M t k) (ecE E 3 (capN (eC E 3) (nP M))) r (show r < nR (pkX M t k) from h_r)) (As := []) (rest := []) rfl rfl ml_X8_173 im_X5_leaveLine se_X5_leaveLine ini_X5 cd_X5_leaveLine ⟨rfl, na_X5_leaveLine⟩ jB_blind (hW.recv hK (show jV (pkX M t k) 5 r from h_r) rfl) (jB_at hX hRf hW hS) hl.1 (Nat.le_of_ble_eq_true rfl) ⟨Nat.le_of_ble_eq_true rfl, Nat.le_of_ble_eq_true rfl⟩ ⟨by show (0 + 1 + addC (eC E 3) (nP M)) + 0 ≤ 2; omega, by show (0 + 3 + addS (eC E 3) (nP M)) + 0 ≤ gP (nP M); omega⟩ rfl dX8_pick_59) hS (fun H locs hW hS => ?_)
    subst hQ
    have hpk : pkF M r = becF (pkC M k t) r 4 := by unfold pkF; rw [e22, e21, ix_nI (by omega), ix_nI (by omega), if_pos (Or.inr (e9_.symm.trans c_1t)), pkB_C e22 e21 (by omega) (by omega)]
    rw [show lvM (pkX M t k) r = becF (pkX M t k) r 4 from lv_bec (B := 0) h_3] at hW
    have hW : WJ G d0 Rf ja (pkF M r) (ecE E 3 (capN (eC E 3) (nP M))) H := by rw [hpk]; exact hW.gh (bec_cg pkX_C)
    exact rt_qv (ja, (ecE E 3 (capN (eC E 3) (nP M)))) hx hb hr hlk hS ⟨by rw [← hja0]; exact hj4, EP.ec⟩ (fun t9 ht9 _ => by show WJ G d0 Rf _ _ _ t9.heap; rw [ht9]; exact hW) (by show 0 + 1 + addC (eC E 3) (nP M) ≤ 2; omega) (by show 0 + 3 + addS (eC E 3) (nP M) ≤ gP (nP M); omega) dX8_pick_62
  · refine lv_aload_n hx hb dX8_pick_51 rfl (lv_at hl 3 rfl) ?_
    refine r1_get hC hK.1 (hW.ob (show jV (pkX M t k) 2 k from h_k)) lay_X2 rfl 2 (by decide) fl_X8_182 (fun x hx => hx) (v := .int ((pkX M t k) 13 k)) rfl dX8_pick_52 ?_
    refine lv_if_ne (tgt := 62) hx hb dX8_pick_55 (by decide) (fun c_3t => ?_) (fun c_3f => ?_)
    · subst hQ
      have hpk : pkF M r = pkC M k t := by unfold pkF; rw [e22, e21, ix_nI (by omega), ix_nI (by omega), if_neg (fun q => q.elim (fun q => c_3t (e13_.trans q)) (fun q => c_1f (e9_.trans q))), pkB_C e22 e21 (by omega) (by omega)]
      have hW : WJ G d0 Rf ja (pkF M r) (ecE E 3 (capN (eC E 3) (nP M))) H := by rw [hpk]; exact hW.gh pkX_C
      exact rt_qv (ja, (ecE E 3 (capN (eC E 3) (nP M)))) hx hb hr hlk hS ⟨by rw [← hja0]; exact hj4, EP.ec⟩ (fun t9 ht9 _ => by show WJ G d0 Rf _ _ _ t9.heap; rw [ht9]; exact hW) (by show 0 + 1 + addC (eC E 3) (nP M) ≤ 2; omega) (by show 0 + 3 + addS (eC E 3) (nP M) ≤ gP (nP M); omega) dX8_pick_62
    · refine lv_aload_n hx hb dX8_pick_58 rfl (lv_at hl 1 rfl) ?_
      refine jcl_v (run_V hC (cJ_X5_leaveLine l G d0 mi Rf ja (pkX M t k) (ecE E 3 (capN (eC E 3) (nP M))) r (show r < nR (pkX M t k) from h_r)) (As := []) (rest := []) rfl rfl ml_X8_173 im_X5_leaveLine se_X5_leaveLine ini_X5 cd_X5_leaveLine ⟨rfl, na_X5_leaveLine⟩ jB_blind (hW.recv hK (show jV (pkX M t k) 5 r from h_r) rfl) (jB_at hX hRf hW hS) hl.1 (Nat.le_of_ble_eq_true rfl) ⟨Nat.le_of_ble_eq_true rfl, Nat.le_of_ble_eq_true rfl⟩ ⟨by show (0 + 1 + addC (eC E 3) (nP M)) + 0 ≤ 2; omega, by show (0 + 3 + addS (eC E 3) (nP M)) + 0 ≤ gP (nP M); omega⟩ rfl dX8_pick_59) hS (fun H locs hW hS => ?_)
      subst hQ
      have hpk : pkF M r = becF (pkC M k t) r 4 := by unfold pkF; rw [e22, e21, ix_nI (by omega), ix_nI (by omega), if_pos (Or.inl (e13_.symm.trans c_3f)), pkB_C e22 e21 (by omega) (by omega)]
      rw [show lvM (pkX M t k) r = becF (pkX M t k) r 4 from lv_bec (B := 0) h_3] at hW
      have hW : WJ G d0 Rf ja (pkF M r) (ecE E 3 (capN (eC E 3) (nP M))) H := by rw [hpk]; exact hW.gh (bec_cg pkX_C)
      exact rt_qv (ja, (ecE E 3 (capN (eC E 3) (nP M)))) hx hb hr hlk hS ⟨by rw [← hja0]; exact hj4, EP.ec⟩ (fun t9 ht9 _ => by show WJ G d0 Rf _ _ _ t9.heap; rw [ht9]; exact hW) (by show 0 + 1 + addC (eC E 3) (nP M) ≤ 2; omega) (by show 0 + 3 + addS (eC E 3) (nP M) ≤ gP (nP M); omega) dX8_pick_62
