/-! THE CLASS'S WORLD: objects by kinds (the numbers of their classes), lists, what the class has beside the reference's rows -/
/-- asksSince, received, dead cells, lists' lengths, contents, room -/
abbrev ES : Type := (Nat → Int32) × (Nat → Int32) × (Nat → Bool) × (Nat → Nat) × (Nat → Nat → Nat) × (Nat → Nat)
abbrev eS (E : ES) : Nat → Int32 := E.1
abbrev eR (E : ES) : Nat → Int32 := E.2.1
abbrev eD (E : ES) : Nat → Bool := E.2.2.1
abbrev eN (E : ES) : Nat → Nat := E.2.2.2.1
abbrev eL (E : ES) : Nat → Nat → Nat := E.2.2.2.2.1
abbrev eC (E : ES) : Nat → Nat := E.2.2.2.2.2
def eS_ (E : ES) (f : Nat → Int32) : ES := (f, E.2)
def eR_ (E : ES) (f : Nat → Int32) : ES := (E.1, f, E.2.2)
def eD_ (E : ES) (f : Nat → Bool) : ES := (E.1, E.2.1, f, E.2.2.2)
def eL_ (E : ES) (n : Nat → Nat) (f : Nat → Nat → Nat) (c : Nat → Nat) : ES := (E.1, E.2.1, E.2.2.1, n, f, c)
/-- sets of cells as longs -/
def bsN (p : Nat → Bool) : Nat → Nat
  | 0 => 0
  | n + 1 => (if p n = true then 2 ^ n else 0) + bsN p n
def bs (p : Nat → Bool) : Int64 := lN (bsN p 64)
def jp (ja : Nat → Nat → Nat) (k : Nat) (x : Int32) : Option Nat := if x = -1 then none else some (ja k (ix x))
def jV (M : MS) (k i : Nat) : Prop := match k with
  | 0 => i = 0
  | 1 => i = 0
  | 2 => VL M i = true
  | 3 => i < nO M
  | 4 => i < nP M
  | 5 => i < nR M
  | 6 => i < nS M
  | 7 => i < nT M
  | 8 => i = 0
  | _ => False
def jF (ja : Nat → Nat → Nat) (M : MS) (E : ES) (k i : Nat) : List Value := match k with
  | 0 => [.ref (ja 1 0), .ref (ja 10 4), .int (M 28 0), .int (M 29 0), .int (M 30 0), .int (M 31 0), .ref (ja 10 5), .ref (ja 10 6)]
  | 1 => [.long (bs (fun c => decide (¬ M 2 c = 0))), .long (bs (fun c => decide (¬ M 3 c = 0))), .long (bs (eD E))]
  | 2 => [.ref (ja 3 (i / 3)), .int (M 12 i), .int (M 13 i), va_rf (jp ja 6 (M 14 i))]
  | 3 => [.int (nI i), .ref (ja 10 (7 + i))]
  | 4 => [.ref (ja 7 (ix (M 35 i))), .ref (ja 3 (ix (M 36 i))), .int (M 37 i)]
  | 5 => [.int (nI i), .int (M 19 i), .int (M 18 i), .int (M 20 i), va_rf (jp ja 7 (M 21 i)), va_rf (jp ja 2 (M 22 i)), .int (M 24 i), .int (eS E i), .int (M 23 i)]
  | 6 => [.int (nI i), .int (M 5 i), .ref (ja 10 (17 + i))]
  | 7 => [.int (nI i), .int (M 7 i), .int (M 8 i), .int (M 9 i), .int (eR E i)]
  | _ => [.ref (ja 0 0), .ref (ja 10 0), .ref (ja 10 1), .ref (ja 10 2), .ref (ja 10 3), .int (M 1 0)]
def jLV (M : MS) (i : Nat) : Prop := i < 7 ∨ (7 ≤ i ∧ i < 7 + nO M) ∨ (17 ≤ i ∧ i < 17 + nS M)
/-- a list's length -/
def jn (M : MS) (E : ES) (i : Nat) : Nat := match i with
  | 0 => nS M
  | 1 => nT M
  | 2 => nO M
  | 3 => nP M
  | 4 => nR M
  | 5 => eN E 5
  | 6 => eN E 6
  | i => if i < 17 then nL M (i - 7) else eN E i
/-- a list's element: its kind, its number -/
def jk (i : Nat) : Nat := match i with
  | 0 => 6
  | 1 => 7
  | 2 => 3
  | 3 => 4
  | 4 => 5
  | 5 => 5
  | 6 => 5
  | _ => 2
def je (E : ES) (i j : Nat) : Nat := match i with
  | 0 => j
  | 1 => j
  | 2 => j
  | 3 => j
  | 4 => j
  | 5 => eL E 5 j
  | 6 => eL E 6 j
  | i => if i < 17 then 3 * (i - 7) + j else eL E i j
def capN (cp n : Nat) : Nat := if n < cp then cp else if cp = 0 then 10 else cp + cp / 2
def addC (cp n : Nat) : Nat := if n < cp then 0 else 1
def addS (cp n : Nat) : Nat := if n < cp then 0 else capN cp n
def capI : Nat → Nat
  | 0 => 0
  | n + 1 => capN (capI n) n
def capOK (i n cp : Nat) : Prop := ((cp = 0 ∧ n = 0) ∨ (10 ≤ cp ∧ n ≤ cp)) ∧ (if i = 3 then cp = capI n ∧ n ≤ 1500 else cp ≤ 45)
/-- numbers that stand for objects do so -/
def okT (M : MS) (x : Int32) : Prop := x = -1 ∨ ∃ t, t < nT M ∧ x = nI t
def okK (M : MS) (x : Int32) : Prop := x = -1 ∨ ∃ k, VL M k = true ∧ x = nI k
def okN (M : MS) (x : Int32) : Prop := x = -1 ∨ ∃ s, s < nS M ∧ x = nI s
def ptOK (M : MS) : Prop := (∀ r, r < nR M → okT M (M 21 r) ∧ okK M (M 22 r)) ∧ (∀ k, VL M k = true → okN M (M 14 k)) ∧ (∀ i, i < nP M → (∃ t, t < nT M ∧ M 35 i = nI t) ∧ ∃ o, o < nO M ∧ M 36 i = nI o) ∧ M 34 0 = nI (nP M) ∧ ∀ o, nO M ≤ o → o < 10 → nL M o = 0
def elOK (M : MS) (E : ES) : Prop := ∀ i, jLV M i → ∀ j, j < jn M E i → jV M (jk i) (je E i j)
def jOK (M : MS) (E : ES) : Prop := CNT M ∧ ptOK M ∧ elOK M E ∧ ∀ i, jLV M i → capOK i (jn M E i) (eC E i)
def WR (G : gG) (d0 : Nat) (Rf : Nat → Prop) (ja : Nat → Nat → Nat) (V : Nat → Nat → Prop) (F : Nat → Nat → List Value) (LV : Nat → Prop) (ln cp : Nat → Nat) (lc : Nat → Nat → Nat) (H : Heap) : Prop :=
  ∃ (ar : Nat → Nat) (md : Nat → Int32) (wh : Nat → Nat × Nat),
    (∀ k i, V k i → va_at G.1 gCl (ja k i, .inr (k, F k i)) H ∧ wh (ja k i) = (k, i) ∧ ¬ Rf (ja k i)) ∧
    (∀ i, LV i → LO G (ja 10 i) (ar i) (ln i) (md i) H ∧ wh (ja 10 i) = (10, i) ∧ ¬ Rf (ja 10 i)) ∧
    (∀ i, LV i → (cp i = 0 ∧ ln i = 0 ∧ ar i = d0) ∨ (10 ≤ cp i ∧ ln i ≤ cp i ∧ cp i ≤ 5000 ∧ LA G (ar i) (cp i) (ln i) (lc i) H ∧ wh (ar i) = (11, i) ∧ ¬ Rf (ar i)))
def jc (ja : Nat → Nat → Nat) (E : ES) (i j : Nat) : Nat := ja (jk i) (je E i j)
def jA (Rf : Nat → Prop) : Nat → Prop := fun q => ¬ Rf q
def WJ (G : gG) (d0 : Nat) (Rf : Nat → Prop) (ja : Nat → Nat → Nat) (M : MS) (E : ES) (H : Heap) : Prop := WR G d0 Rf ja (jV M) (jF ja M E) (jLV M) (jn M E) (eC E) (jc ja E) H ∧ jOK M E
theorem capI_le : ∀ n, capI n ≤ n + n / 2 + 10
  | 0 => by decide
  | n + 1 => by
    have h := capI_le n
    unfold capI capN
    split
    · omega
    · split
      · omega
      · omega
theorem capOK.le {i n cp : Nat} (h : capOK i n cp) : cp ≤ 2260 := by
  obtain ⟨h1, h2⟩ := h
  split at h2
  · have := capI_le n; omega
  · omega
theorem capOK.add {i n cp : Nat} (h : capOK i n cp) (h3 : i = 3 → n < 1500) (h4 : i ≠ 3 → n < 30) : capOK i (n + 1) (capN cp n) := by
  obtain ⟨h1, h2⟩ := h
  refine ⟨?_, ?_⟩
  · right
    unfold capN
    split
    · omega
    · split <;> omega
  · by_cases e : i = 3
    · rw [if_pos e] at h2 ⊢
      exact ⟨by rw [capI, ← h2.1], by have := h3 e; omega⟩
    · rw [if_neg e] at h2 ⊢
      have := h4 e
      unfold capN
      split
      · omega
      · split <;> omega
theorem capOK.less {i n m cp : Nat} (h : capOK i n cp) (hm : m ≤ n) (hi : i ≠ 3) : capOK i m cp := by
  obtain ⟨h1, h2⟩ := h
  rw [if_neg hi] at h2
  exact ⟨by omega, by rw [if_neg hi]; exact h2⟩
theorem addS_le {cp n : Nat} (h : cp ≤ 45) (hn : n ≤ 30) : addS cp n ≤ 67 := by
  unfold addS capN
  split
  · omega
  · split <;> omega
theorem addC_le {cp n : Nat} : addC cp n ≤ 1 := by unfold addC; split <;> omega
section WRS
variable {G : gG} {d0 : Nat} {Rf : Nat → Prop} {ja : Nat → Nat → Nat} {V : Nat → Nat → Prop} {F : Nat → Nat → List Value} {LV : Nat → Prop} {ln cp : Nat → Nat} {lc : Nat → Nat → Nat} {H H1 : Heap}
theorem WR.ob (h : WR G d0 Rf ja V F LV ln cp lc H) {k i : Nat} (hv : V k i) : va_at G.1 gCl (ja k i, .inr (k, F k i)) H := by
  obtain ⟨ar, md, wh, h1, -⟩ := h
  exact (h1 k i hv).1
theorem WR.own (h : WR G d0 Rf ja V F LV ln cp lc H) {k i : Nat} (hv : V k i) : jA Rf (ja k i) := by
  obtain ⟨ar, md, wh, h1, -⟩ := h
  exact (h1 k i hv).2.2
theorem WR.inj (h : WR G d0 Rf ja V F LV ln cp lc H) {k i k' i' : Nat} (hv : V k i) (hv' : V k' i') (e : ja k i = ja k' i') : k = k' ∧ i = i' := by
  obtain ⟨ar, md, wh, h1, -⟩ := h
  have a := (h1 k i hv).2.1
  rw [e, (h1 k' i' hv').2.1] at a
  cases a
  exact ⟨rfl, rfl⟩
theorem WR.cg {V' : Nat → Nat → Prop} {F' : Nat → Nat → List Value} {LV' : Nat → Prop} {ln' cp' : Nat → Nat} {lc' : Nat → Nat → Nat} (h : WR G d0 Rf ja V F LV ln cp lc H) (hF : ∀ k i, V' k i → V k i ∧ F' k i = F k i) (hL : ∀ i, LV' i → LV i ∧ ln' i = ln i ∧ cp' i = cp i ∧ ∀ j, j < ln i → lc' i j = lc i j) : WR G d0 Rf ja V' F' LV' ln' cp' lc' H := by
  obtain ⟨ar, md, wh, h1, h2, h3⟩ := h
  refine ⟨ar, md, wh, fun k i hv => ?_, fun i hi => ?_, fun i hi => ?_⟩
  · obtain ⟨a, b⟩ := hF k i hv
    rw [b]
    exact h1 k i a
  · obtain ⟨a, b, c, d⟩ := hL i hi
    rw [b]
    exact h2 i a
  · obtain ⟨a, b, c, d⟩ := hL i hi
    rw [b, c]
    rcases h3 i a with q | ⟨q1, q2, q3, q4, q5⟩
    · exact Or.inl q
    · refine Or.inr ⟨q1, q2, q3, qE_cg q4 (fun j _ => ?_), q5⟩
      unfold lf
      by_cases e : j < ln i
      · rw [if_pos e, if_pos e, d j e]
      · rw [if_neg e, if_neg e]
/-- cells of others may change -/
theorem WR.kept (h : WR G d0 Rf ja V F LV ln cp lc H) (hk : ∀ q : Nat, q < H.size → ¬ Rf q → H1[q]? = H[q]?) : WR G d0 Rf ja V F LV ln cp lc H1 := by
  obtain ⟨ar, md, wh, h1, h2, h3⟩ := h
  refine ⟨ar, md, wh, fun k i hv => ?_, fun i hi => ?_, fun i hi => ?_⟩
  · obtain ⟨a, b, c⟩ := h1 k i hv
    exact ⟨a.kept (hk _ a.lt c), b, c⟩
  · obtain ⟨a, b, c⟩ := h2 i hi
    exact ⟨a.kept (hk _ a.lt c), b, c⟩
  · rcases h3 i hi with q | ⟨q1, q2, q3, q4, q5, q6⟩
    · exact Or.inl q
    · exact Or.inr ⟨q1, q2, q3, q4.kept (hk _ q4.lt q6), q5, q6⟩
/-- an object's fields change -/
theorem WR.put (h : WR G d0 Rf ja V F LV ln cp lc H) {k i : Nat} (hv : V k i) (hk : k < 10) {fs : List Value} (e1 : va_at G.1 gCl (ja k i, .inr (k, fs)) H1) (oq : ∀ q : Nat, q ≠ ja k i → H1[q]? = H[q]?) {F' : Nat → Nat → List Value} (hF : F' k i = fs) (hF2 : ∀ k' i', V k' i' → (k' = k → i' ≠ i) → F' k' i' = F k' i') : WR G d0 Rf ja V F' LV ln cp lc H1 := by
  obtain ⟨ar, md, wh, h1, h2, h3⟩ := h
  have hw := (h1 k i hv).2.1
  have hne : ∀ a x, wh a = x → x ≠ (k, i) → a ≠ ja k i := fun a x e n q => n (by rw [← e, q, hw])
  refine ⟨ar, md, wh, fun k' i' hv' => ?_, fun i' hi => ?_, fun i' hi => ?_⟩
  · obtain ⟨a, b, c⟩ := h1 k' i' hv'
    by_cases e : k' = k ∧ i' = i
    · obtain ⟨rfl, rfl⟩ := e
      rw [hF]
      exact ⟨e1, b, c⟩
    · rw [hF2 k' i' hv' (fun q z => e ⟨q, z⟩)]
      exact ⟨a.kept (oq _ (hne _ _ b (fun q => by cases q; exact e ⟨rfl, rfl⟩))), b, c⟩
  · obtain ⟨a, b, c⟩ := h2 i' hi
    exact ⟨a.kept (oq _ (hne _ _ b (fun q => by cases q; omega))), b, c⟩
  · rcases h3 i' hi with q | ⟨q1, q2, q3, q4, q5, q6⟩
    · exact Or.inl q
    · exact Or.inr ⟨q1, q2, q3, q4.kept (oq _ (hne _ _ q5 (fun q => by cases q; omega))), q5, q6⟩
/-- a new object -/
theorem WR.new (h : WR G d0 Rf ja V F LV ln cp lc H) {k i q : Nat} (hk : k < 10) (hq : q = H.size) (hR : ¬ Rf q) {fs : List Value} (e1 : va_at G.1 gCl (q, .inr (k, fs)) H1) (oq : ∀ z : Nat, z < H.size → H1[z]? = H[z]?) (hn : ¬ V k i) : WR G d0 Rf (fun k' i' => if k' = k ∧ i' = i then q else ja k' i') (fun k' i' => V k' i' ∨ (k' = k ∧ i' = i)) (fun k' i' => if k' = k ∧ i' = i then fs else F k' i') LV ln cp lc H1 := by
  obtain ⟨ar, md, wh, h1, h2, h3⟩ := h
  refine ⟨ar, md, fun z => if z = q then (k, i) else wh z, fun k' i' hv' => ?_, fun i' hi => ?_, fun i' hi => ?_⟩
  · by_cases e : k' = k ∧ i' = i
    · obtain ⟨rfl, rfl⟩ := e
      dsimp only
      rw [if_pos ⟨rfl, rfl⟩, if_pos ⟨rfl, rfl⟩, if_pos rfl]
      exact ⟨e1, rfl, hR⟩
    · dsimp only
      rw [if_neg e, if_neg e]
      obtain ⟨a, b, c⟩ := h1 k' i' (hv'.resolve_right e)
      have hl := a.lt
      dsimp only at hl
      rw [if_neg (by omega)]
      exact ⟨a.kept (oq _ hl), b, c⟩
  · dsimp only
    rw [if_neg (by omega)]
    obtain ⟨a, b, c⟩ := h2 i' hi
    have hl := a.lt
    dsimp only at hl
    rw [if_neg (by omega)]
    exact ⟨a.kept (oq _ hl), b, c⟩
  · rcases h3 i' hi with z | ⟨q1, q2, q3, q4, q5, q6⟩
    · exact Or.inl z
    · have hl := q4.lt
      dsimp only at hl ⊢
      rw [if_neg (by omega)]
      exact Or.inr ⟨q1, q2, q3, q4.kept (oq _ hl), q5, q6⟩
/-- a new list, without an array -/
theorem WR.newL (h : WR G d0 Rf ja V F LV ln cp lc H) {i q : Nat} (hVk : ∀ k i, V k i → k < 10) (hq : q = H.size) (hR : ¬ Rf q) {md0 : Int32} (e1 : LO G q d0 0 md0 H1) (oq : ∀ z : Nat, z < H.size → H1[z]? = H[z]?) (hn : ¬ LV i) : WR G d0 Rf (fun k' i' => if k' = 10 ∧ i' = i then q else ja k' i') V F (fun i' => LV i' ∨ i' = i) (fun i' => if i' = i then 0 else ln i') (fun i' => if i' = i then 0 else cp i') lc H1 := by
  obtain ⟨ar, md, wh, h1, h2, h3⟩ := h
  refine ⟨fun i' => if i' = i then d0 else ar i', fun i' => if i' = i then md0 else md i', fun z => if z = q then (10, i) else wh z, fun k' i' hv' => ?_, fun i' hi => ?_, fun i' hi => ?_⟩
  · have hk := hVk k' i' hv'
    dsimp only
    rw [if_neg (by omega)]
    obtain ⟨a, b, c⟩ := h1 k' i' hv'
    have hl := a.lt
    dsimp only at hl
    rw [if_neg (by omega)]
    exact ⟨a.kept (oq _ hl), b, c⟩
  · by_cases e : i' = i
    · subst e
      dsimp only
      rw [if_pos ⟨rfl, rfl⟩, if_pos rfl, if_pos rfl, if_pos rfl, if_pos rfl]
      exact ⟨e1, rfl, hR⟩
    · dsimp only
      rw [if_neg (fun z => e z.2), if_neg e, if_neg e, if_neg e]
      obtain ⟨a, b, c⟩ := h2 i' (hi.resolve_right e)
      have hl := a.lt
      dsimp only at hl
      rw [if_neg (by omega)]
      exact ⟨a.kept (oq _ hl), b, c⟩
  · by_cases e : i' = i
    · subst e
      dsimp only
      rw [if_pos rfl, if_pos rfl, if_pos rfl]
      exact Or.inl ⟨rfl, rfl, rfl⟩
    · dsimp only
      rw [if_neg e, if_neg e, if_neg e]
      rcases h3 i' (hi.resolve_right e) with z | ⟨q1, q2, q3, q4, q5, q6⟩
      · exact Or.inl z
      · have hl := q4.lt
        dsimp only at hl ⊢
        rw [if_neg (by omega)]
        exact Or.inr ⟨q1, q2, q3, q4.kept (oq _ hl), q5, q6⟩
/-- a list has changed: its cells, and an array, old or new -/
theorem WR.lst {ar : Nat → Nat} {md : Nat → Int32} {wh : Nat → Nat × Nat} (h1 : ∀ k i, V k i → va_at G.1 gCl (ja k i, .inr (k, F k i)) H ∧ wh (ja k i) = (k, i) ∧ ¬ Rf (ja k i))
    (h2 : ∀ i, LV i → LO G (ja 10 i) (ar i) (ln i) (md i) H ∧ wh (ja 10 i) = (10, i) ∧ ¬ Rf (ja 10 i))
    (h3 : ∀ i, LV i → (cp i = 0 ∧ ln i = 0 ∧ ar i = d0) ∨ (10 ≤ cp i ∧ ln i ≤ cp i ∧ cp i ≤ 5000 ∧ LA G (ar i) (cp i) (ln i) (lc i) H ∧ wh (ar i) = (11, i) ∧ ¬ Rf (ar i)))
    (hVk : ∀ k i, V k i → k < 10) {i : Nat} (hi : LV i) {a' n' c' : Nat} {f' : Nat → Nat} {md' : Int32} (e1 : LO G (ja 10 i) a' n' md' H1) (e2 : LA G a' c' n' f' H1) (hc : 10 ≤ c' ∧ n' ≤ c' ∧ c' ≤ 5000) (ha : (a' = ar i ∧ wh a' = (11, i) ∧ ¬ Rf a') ∨ (H.size ≤ a' ∧ ¬ Rf a'))
    (oq : ∀ z : Nat, z < H.size → z ≠ ja 10 i → (cp i ≠ 0 → z ≠ ar i) → H1[z]? = H[z]?) :
    WR G d0 Rf ja V F LV (fun i' => if i' = i then n' else ln i') (fun i' => if i' = i then c' else cp i') (fun i' j => if i' = i then f' j else lc i' j) H1 := by
  have hA : wh (ar i) = (11, i) ∨ cp i = 0 := by
    rcases h3 i hi with q | q
    · exact Or.inr q.1
    · exact Or.inl q.2.2.2.2.1
  have ok : ∀ z x, z < H.size → wh z = x → x.1 ≠ 10 ∨ x.2 ≠ i → x ≠ (11, i) → H1[z]? = H[z]? := fun z x hz hx n10 n11 => by
    refine oq z hz (fun e => ?_) (fun hcp e => ?_)
    · rw [e, (h2 i hi).2.1] at hx
      rw [← hx] at n10
      rcases n10 with q | q
      · exact q rfl
      · exact q rfl
    · rcases hA with q | q
      · rw [e, q] at hx; exact n11 hx.symm
      · exact hcp q
  have na : ∀ z x, z < H.size → wh z = x → x ≠ (11, i) → z ≠ a' := fun z x hz hx n e => by
    rcases ha with ⟨q1, q2, -⟩ | ⟨q, -⟩
    · rw [e, q2] at hx; exact n hx.symm
    · omega
  refine ⟨fun i' => if i' = i then a' else ar i', fun i' => if i' = i then md' else md i', fun z => if z = a' then (11, i) else wh z, fun k i' hv => ?_, fun i' hi' => ?_, fun i' hi' => ?_⟩
  · obtain ⟨a, b, c⟩ := h1 k i' hv
    have hk := hVk k i' hv
    have n11 : ((k, i') : Nat × Nat) ≠ (11, i) := fun q => by cases q; omega
    dsimp only
    rw [if_neg (na _ _ a.lt b n11)]
    exact ⟨a.kept (ok _ _ a.lt b (Or.inl (by dsimp only; omega)) n11), b, c⟩
  · have hj := h2 i' hi'
    obtain ⟨a, b, c⟩ := hj
    have n11 : ((10, i') : Nat × Nat) ≠ (11, i) := fun q => by cases q
    dsimp only
    rw [if_neg (na _ _ a.lt b n11)]
    by_cases e : i' = i
    · subst e
      rw [if_pos rfl, if_pos rfl, if_pos rfl]
      exact ⟨e1, b, c⟩
    · rw [if_neg e, if_neg e, if_neg e]
      exact ⟨a.kept (ok _ _ a.lt b (Or.inr e) n11), b, c⟩
  · by_cases e : i' = i
    · subst e
      dsimp only
      rw [if_pos rfl, if_pos rfl, if_pos rfl]
      refine Or.inr ⟨hc.1, hc.2.1, hc.2.2, ?_, if_pos rfl, ?_⟩
      · have : (fun j => if i' = i' then f' j else lc i' j) = f' := by funext j; rw [if_pos rfl]
        rw [this]; exact e2
      · rcases ha with ⟨-, -, q⟩ | ⟨-, q⟩ <;> exact q
    · dsimp only
      rw [if_neg e, if_neg e, if_neg e]
      rcases h3 i' hi' with q | ⟨q1, q2, q3, q4, q5, q6⟩
      · exact Or.inl q
      · have n11 : ((11, i') : Nat × Nat) ≠ (11, i) := fun q => by cases q; exact e rfl
        refine Or.inr ⟨q1, q2, q3, ?_, by rw [if_neg (na _ _ q4.lt q5 n11)]; exact q5, q6⟩
        have : (fun j => if i' = i then f' j else lc i' j) = lc i' := by funext j; rw [if_neg e]
        rw [this]
        exact q4.kept (ok _ _ q4.lt q5 (Or.inl (by show (11 : Nat) ≠ 10; omega)) n11)
/-- a list without an array is told that it has changed -/
theorem WR.lst0 {ar : Nat → Nat} {md : Nat → Int32} {wh : Nat → Nat × Nat} (h1 : ∀ k i, V k i → va_at G.1 gCl (ja k i, .inr (k, F k i)) H ∧ wh (ja k i) = (k, i) ∧ ¬ Rf (ja k i))
    (h2 : ∀ i, LV i → LO G (ja 10 i) (ar i) (ln i) (md i) H ∧ wh (ja 10 i) = (10, i) ∧ ¬ Rf (ja 10 i))
    (h3 : ∀ i, LV i → (cp i = 0 ∧ ln i = 0 ∧ ar i = d0) ∨ (10 ≤ cp i ∧ ln i ≤ cp i ∧ cp i ≤ 5000 ∧ LA G (ar i) (cp i) (ln i) (lc i) H ∧ wh (ar i) = (11, i) ∧ ¬ Rf (ar i)))
    (hVk : ∀ k i, V k i → k < 10) {i : Nat} (hi : LV i) (h0 : cp i = 0) {md' : Int32} (e1 : LO G (ja 10 i) d0 0 md' H1)
    (oq : ∀ z : Nat, z < H.size → z ≠ ja 10 i → H1[z]? = H[z]?) : WR G d0 Rf ja V F LV ln cp lc H1 := by
  have ok : ∀ z x, z < H.size → wh z = x → x.1 ≠ 10 ∨ x.2 ≠ i → H1[z]? = H[z]? := fun z x hz hx n10 => by
    refine oq z hz (fun e => ?_)
    rw [e, (h2 i hi).2.1] at hx
    rw [← hx] at n10
    rcases n10 with q | q
    · exact q rfl
    · exact q rfl
  have hz : ln i = 0 ∧ ar i = d0 := by
    rcases h3 i hi with q | q
    · exact q.2
    · omega
  refine ⟨ar, fun i' => if i' = i then md' else md i', wh, fun k i' hv => ?_, fun i' hi' => ?_, fun i' hi' => ?_⟩
  · obtain ⟨a, b, c⟩ := h1 k i' hv
    have hk := hVk k i' hv
    exact ⟨a.kept (ok _ _ a.lt b (Or.inl (by dsimp only; omega))), b, c⟩
  · obtain ⟨a, b, c⟩ := h2 i' hi'
    by_cases e : i' = i
    · subst e
      dsimp only
      rw [if_pos rfl, hz.1, hz.2]
      exact ⟨e1, b, c⟩
    · dsimp only
      rw [if_neg e]
      exact ⟨a.kept (ok _ _ a.lt b (Or.inr e)), b, c⟩
  · rcases h3 i' hi' with q | ⟨q1, q2, q3, q4, q5, q6⟩
    · exact Or.inl q
    · exact Or.inr ⟨q1, q2, q3, q4.kept (ok _ _ q4.lt q5 (Or.inl (by show (11 : Nat) ≠ 10; omega))), q5, q6⟩
end WRS
def jo (k : Nat) : Prop := k = 2 ∨ k = 3 ∨ k = 4 ∨ k = 5 ∨ k = 6 ∨ k = 7
theorem jo.lt {k : Nat} (h : jo k) : k < 10 := by unfold jo at h; omega
theorem gAny_k {G : gG} {s : State} {H : Heap} {a k : Nat} {fs : List Value} (hK : gK G s) (h : va_at G.1 gCl (a, .inr (k, fs)) H) (hk : jo k) : gAny s H a := by
  obtain ⟨h0, ⟨a2, a3, a4, a5, a6, a7⟩, -⟩ := hK
  rcases hk with rfl | rfl | rfl | rfl | rfl | rfl
  · exact gAny_of h0 h rfl a2
  · exact gAny_of h0 h rfl a3
  · exact gAny_of h0 h rfl a4
  · exact gAny_of h0 h rfl a5
  · exact gAny_of h0 h rfl a6
  · exact gAny_of h0 h rfl a7
/-- what an element of a list is -/
def elV (V : Nat → Nat → Prop) (ja : Nat → Nat → Nat) (x : Nat) : Prop := ∃ k q, jo k ∧ V k q ∧ x = ja k q
theorem hB2_blind {G : gG} {N x : Nat} {P : Nat → Prop} {g : Nat → Nat} {q r : Nat × va_E} {av : List Value} : FrameBlind (va_Pc av (fun S => S.heap.size = N ∧ va_at G.1 gCl q S.heap ∧ va_at G.1 gCl r S.heap ∧ gAny S S.heap x ∧ (∀ i, P i → gAny S S.heap (g i)) ∧ gK G S)) := fun _ _ _ _ h => ⟨h.1, h.2.1, h.2.2.1, h.2.2.2.1, h.2.2.2.2.1, h.2.2.2.2.2.1, h.2.2.2.2.2.2.blind⟩
theorem vaB_blind {G : gG} {N : Nat} {q r : Nat × va_E} {av : List Value} : FrameBlind (va_Pc av (fun S => S.heap.size = N ∧ va_at G.1 gCl q S.heap ∧ va_at G.1 gCl r S.heap ∧ gK G S)) := fun _ _ _ _ h => ⟨h.1, h.2.1, h.2.2.1, h.2.2.2.1, h.2.2.2.2.blind⟩
section WL
variable {p : Program} {l : Launch} {e : Env} {R : Room} {s : State} {m : MethodId} {args : Array Value} {below : List Frame} {meth : Method} {c : Code} {H : Heap} {locs : List Loc} {cells slots : Nat} {Q : State → Prop}
variable {cc : ByteArray} {pc nL : Nat} {ls : Array Slot} {rest : List Value} {own : String} {H0 : Heap}
variable {G : gG} {d0 mi : Nat} {Rf : Nat → Prop} {ja : Nat → Nat → Nat} {V : Nat → Nat → Prop} {F : Nat → Nat → List Value} {LV : Nat → Prop} {ln cp : Nat → Nat} {lc : Nat → Nat → Nat}
theorem jw_size (hC : CallFix p m c cc nL s args BIG own) (hK : gK G s) (hW : WR G d0 Rf ja V F LV ln cp lc H) {i : Nat} (hi : LV i) {index : Nat} (w1 : Cond.methodLink own index yJx4a65c_size_8abf5 ∈ BIG) (hsz : ls.size = nL) (hWr : (rest.map fun v => v.category).sum ≤ 8) (hR : 13 ≤ R.frames ∧ 320 ≤ R.locals ∧ cells ≤ R.cells ∧ slots ≤ R.slots) (hdg : decode cc pc = .ok (.invokevirtual index, 3))
    (kk : W p l e R s m args below meth c H locs cells slots Q (F0 m (pc + 3) ls (.int (nI (ln i)) :: rest))) : W p l e R s m args below meth c H locs cells slots Q (F0 m pc ls (.ref (ja 10 i) :: rest)) := by
  obtain ⟨ar, md, wh, h1, h2, h3⟩ := hW
  have ho := (h2 i hi).1
  exact cl_p (run_V hC (cJ_Jx4a65c_size_8abf5 l G (ja 10 i) (ar i) (ln i) (md i)) (As := []) (rest := rest) rfl rfl w1 im_Jx4a65c_size_8abf5 se_Jx4a65c_size_8abf5 ini_Jx4a65c cd_Jx4a65c_size_8abf5 ⟨rfl, na_Jx4a65c_size_8abf5⟩ oB_blind (ls_recv hK ho rfl) (fun U hU hW => ⟨by rw [hU]; exact ho, hK.warm hW⟩) hsz hWr ⟨hR.1, by show 8 + (1 + 11) + 300 ≤ _; omega⟩ ⟨hR.2.2.1, hR.2.2.2⟩ rfl hdg) kk
theorem jw_get (hC : CallFix p m c cc nL s args BIG own) (hK : gK G s) (hW : WR G d0 Rf ja V F LV ln cp lc H) {i j : Nat} (hi : LV i) (hj : j < ln i) {index : Nat} (w1 : Cond.methodLink own index yJx4a65c_get_915e3 ∈ BIG) (hsz : ls.size = nL) (hWr : (rest.map fun v => v.category).sum ≤ 8) (hR : 15 ≤ R.frames ∧ 401 ≤ R.locals ∧ cells ≤ R.cells ∧ slots ≤ R.slots) (hdg : decode cc pc = .ok (.invokevirtual index, 3))
    (kk : W p l e R s m args below meth c H locs cells slots Q (F0 m (pc + 3) ls (.ref (lc i j) :: rest))) : W p l e R s m args below meth c H locs cells slots Q (F0 m pc ls (.int (nI j) :: .ref (ja 10 i) :: rest)) := by
  obtain ⟨ar, md, wh, h1, h2, h3⟩ := hW
  have ho := (h2 i hi).1
  rcases h3 i hi with q | ⟨q1, q2, q3, ha, q5, q6⟩
  · omega
  · exact cl_p (run_V hC (cJ_Jx4a65c_get_915e3 l G (ja 10 i) (ar i) (cp i) (ln i) (lc i) (md i) j hj q2 (by omega)) (As := [.int (nI j)]) (rest := rest) rfl rfl w1 im_Jx4a65c_get_915e3 se_Jx4a65c_get_915e3 ini_Jx4a65c cd_Jx4a65c_get_915e3 ⟨rfl, na_Jx4a65c_get_915e3⟩ oaB_blind (ls_recv hK ho rfl) (fun U hU hW => ⟨by rw [hU]; exact ho, by rw [hU]; exact ha, hK.warm hW⟩) hsz hWr ⟨hR.1, by show 8 + (2 + 11) + 380 ≤ _; omega⟩ ⟨hR.2.2.1, hR.2.2.2⟩ rfl hdg) kk
theorem jw_add (hC : CallFix p m c cc nL s args BIG own) (hX : gX G d0 mi (jA Rf) s) (hRf : ∀ q, Rf q → q < s.heap.size) (hW : WR G d0 Rf ja V F LV ln cp lc H) (hVk : ∀ k i, V k i → k < 10) (hS : va_S (jA Rf) s.heap H locs) {i x : Nat} (hi : LV i) (hel : ∀ j, j < ln i → elV V ja (lc i j)) (hx : elV V ja x) (hcap : (cp i = 0 ∧ ln i = 0) ∨ (10 ≤ cp i ∧ ln i ≤ cp i ∧ cp i ≤ 2260)) {index : Nat} (w1 : Cond.methodLink own index yJx4a65c_add_9ea2d ∈ BIG) (hsz : ls.size = nL) (hWr : (rest.map fun v => v.category).sum ≤ 8) (hR : 19 ≤ R.frames ∧ 561 ≤ R.locals) (hf : cells + addC (cp i) (ln i) ≤ R.cells ∧ slots + addS (cp i) (ln i) ≤ R.slots) (hdg : decode cc pc = .ok (.invokevirtual index, 3))
    (kk : ∀ (r : Int32) (H1 : Heap) (locs1 : List Loc), WR G d0 Rf ja V F LV (fun i' => if i' = i then ln i + 1 else ln i') (fun i' => if i' = i then capN (cp i) (ln i) else cp i') (fun i' j => if i' = i then fup (lc i) (ln i) x j else lc i' j) H1 → va_S (jA Rf) s.heap H1 locs1 → H.size ≤ H1.size → W p l e R s m args below meth c H1 locs1 (cells + addC (cp i) (ln i)) (slots + addS (cp i) (ln i)) Q (F0 m (pc + 3) ls (.int r :: rest))) : W p l e R s m args below meth c H locs cells slots Q (F0 m pc ls (.ref x :: .ref (ja 10 i) :: rest)) := by
  have hK := hX.1
  have hob : ∀ {k q}, V k q → va_at G.1 gCl (ja k q, .inr (k, F k q)) H := fun hv => hW.ob hv
  obtain ⟨ar, md, wh, h1, h2, h3⟩ := hW
  obtain ⟨ho, hw, hr⟩ := h2 i hi
  obtain ⟨kx, qx, jx, vx, ex⟩ := hx
  have hax : gAny s H x := by rw [ex]; exact gAny_k hK (hob vx) jx
  have hxw : wh x = (kx, qx) := by rw [ex]; exact (h1 _ _ vx).2.1
  have hkx := jx.lt
  have hxq : x ≠ ja 10 i := fun q => by rw [q, hw] at hxw; cases hxw; omega
  have hea : ∀ j, j < ln i → gAny s H (lc i j) := fun j hj => by
    obtain ⟨k, q, a, b, d⟩ := hel j hj
    rw [d]; exact gAny_k hK (hob b) a
  have heq : ∀ j, j < ln i → lc i j ≠ ja 10 i := fun j hj z => by
    obtain ⟨k, q, a, b, d⟩ := hel j hj
    have := (h1 _ _ b).2.1
    rw [← d, z, hw] at this
    cases this
    have := a.lt; omega
  have hnew : ∀ z : Nat, H.size ≤ z → jA Rf z := fun z hz hq => by
    have := hRf z hq; have := hS.1; omega
  by_cases hlt : ln i < cp i
  · rcases h3 i hi with q | ⟨q1, q2, q3, ha, q5, q6⟩
    · omega
    · have ec : addC (cp i) (ln i) = 0 := if_pos hlt
      have es : addS (cp i) (ln i) = 0 := if_pos hlt
      have en : capN (cp i) (ln i) = cp i := if_pos hlt
      rw [ec, es, en] at kk
      have hqa : ar i ≠ ja 10 i := fun q => by rw [q, hw] at q5; cases q5
      have hxa : x ≠ ar i := fun q => by rw [q, q5] at hxw; cases hxw; omega
      have hA : ∀ z, rvB (ja 10 i) (ar i) H.size z → jA Rf z := fun z h => by
        rcases h with rfl | rfl | h
        · exact hr
        · exact q6
        · exact hnew z h
      refine va_calli (run_V hC (cJ_addEN l G (ja 10 i) (ar i) (cp i) (ln i) x (lc i) (md i) H.size hlt (by omega) hqa hxq hxa) (As := [.ref x]) (rest := rest) rfl rfl w1 im_Jx4a65c_add_9ea2d se_Jx4a65c_add_9ea2d ini_Jx4a65c cd_Jx4a65c_add_9ea2d ⟨rfl, na_Jx4a65c_add_9ea2d⟩ nB_blind (ls_recv hK ho rfl) (fun U hU hW => ⟨by rw [hU], by rw [hU]; exact ho, by rw [hU]; exact ha, by rw [hU]; exact gAny.moved hW.alike hax, hK.warm hW⟩) hsz hWr ⟨hR.1, by show 8 + (2 + 11) + 540 ≤ _; omega⟩ ⟨by omega, by omega⟩ rfl hdg) hS (fun z _ h => hA z h) hA (fun r u tt H1 locs1 ht_ _ _ hB_ hz1 oq hS1 => ?_)
      rw [ht_] at hB_
      refine kk r H1 locs1 (WR.lst h1 h2 h3 hVk hi hB_.1 hB_.2 ⟨q1, by omega, q3⟩ (Or.inl ⟨rfl, q5, q6⟩) (fun z hz n1 n2 => oq z hz (fun h => ?_))) hS1 hz1
      rcases h with h | h | h
      · exact n1 h
      · exact n2 (by omega) h
      · omega
  · rcases hcap with ⟨hc0, hn0⟩ | ⟨hc1, hc2, hc3⟩
    · rcases h3 i hi with ⟨-, -, had⟩ | q
      · have ec : addC (cp i) (ln i) = 1 := if_neg hlt
        have en : capN (cp i) (ln i) = 10 := by unfold capN; rw [if_neg hlt, if_pos hc0]
        have es : addS (cp i) (ln i) = 10 := by unfold addS; rw [if_neg hlt, en]
        rw [ec, es, en, hn0] at kk
        rw [ec, es] at hf
        rw [had, hn0] at ho
        have hA : ∀ z, rvA (ja 10 i) H.size z → jA Rf z := fun z h => by
          rcases h with rfl | h
          · exact hr
          · exact hnew z h
        refine va_calli (run_V hC (cJ_addEF l G d0 mi (ja 10 i) x (md i) H.size hxq) (As := [.ref x]) (rest := rest) rfl rfl w1 im_Jx4a65c_add_9ea2d se_Jx4a65c_add_9ea2d ini_Jx4a65c cd_Jx4a65c_add_9ea2d ⟨rfl, na_Jx4a65c_add_9ea2d⟩ fB_blind (ls_recv hK ho rfl) (fun U hU hW => ⟨by rw [hU], by rw [hU]; exact ho, by rw [hU]; exact gAny.moved hW.alike hax, hX.at hS hA hU hW⟩) hsz hWr ⟨hR.1, by show 8 + (2 + 11) + 540 ≤ _; omega⟩ hf rfl hdg) hS (fun z _ h => hA z h) hA (fun r z tt H1 locs1 ht_ _ _ hB_ hz1 oq hS1 => ?_)
        rw [ht_] at hB_
        obtain ⟨hz, e1, e2⟩ := hB_
        have e3 : LA G z 10 1 (fup (lc i) 0 x) H1 := qE_cg e2 (fun j _ => by
          unfold lf fup
          by_cases q : j < 1
          · rw [if_pos q, if_pos q, if_pos (by omega)]
          · rw [if_neg q, if_neg q])
        refine kk r H1 locs1 (WR.lst h1 h2 h3 hVk hi (n' := 0 + 1) e1 e3 ⟨by omega, by omega, by omega⟩ (Or.inr ⟨hz, hnew z hz⟩) (fun y hy n1 n2 => oq y hy (fun h => ?_))) hS1 hz1
        rcases h with h | h
        · exact n1 h
        · omega
      · omega
    · rcases h3 i hi with q | ⟨q1, q2, q3, ha, q5, q6⟩
      · omega
      · have ecn : cp i = ln i := by omega
        have ec : addC (cp i) (ln i) = 1 := if_neg hlt
        have en : capN (cp i) (ln i) = ln i + ln i / 2 := by unfold capN; rw [if_neg hlt, if_neg (by omega), ecn]
        have es : addS (cp i) (ln i) = ln i + ln i / 2 := by unfold addS; rw [if_neg hlt, en]
        rw [ec, es, en] at kk
        rw [ec, es] at hf
        rw [ecn] at ha
        have hqa : ar i ≠ ja 10 i := fun q => by rw [q, hw] at q5; cases q5
        have hxa : x ≠ ar i := fun q => by rw [q, q5] at hxw; cases hxw; omega
        have hA : ∀ z, rvB (ja 10 i) (ar i) H.size z → jA Rf z := fun z h => by
          rcases h with rfl | rfl | h
          · exact hr
          · exact q6
          · exact hnew z h
        refine va_calli (run_V hC (cJ_addEG l G d0 mi (ja 10 i) (ar i) (ln i) x (lc i) (md i) H.size (by omega) (by omega) hqa hxq hxa heq) (As := [.ref x]) (rest := rest) rfl rfl w1 im_Jx4a65c_add_9ea2d se_Jx4a65c_add_9ea2d ini_Jx4a65c cd_Jx4a65c_add_9ea2d ⟨rfl, na_Jx4a65c_add_9ea2d⟩ (hB_blind (P := fun j => j < ln i) (g := lc i)) (ls_recv hK ho rfl) (fun U hU hW => ⟨by rw [hU], by rw [hU]; exact ho, by rw [hU]; exact ha, by rw [hU]; exact gAny.moved hW.alike hax, fun j hj => by rw [hU]; exact gAny.moved hW.alike (hea j hj), hX.at hS hA hU hW⟩) hsz hWr ⟨hR.1, by show 8 + (2 + 11) + 540 ≤ _; omega⟩ hf rfl hdg) hS (fun z _ h => hA z h) hA (fun r z tt H1 locs1 ht_ _ _ hB_ hz1 oq hS1 => ?_)
        rw [ht_] at hB_
        obtain ⟨hz, e1, e2⟩ := hB_
        refine kk r H1 locs1 (WR.lst h1 h2 h3 hVk hi e1 e2 ⟨by omega, by omega, by omega⟩ (Or.inr ⟨hz, hnew z hz⟩) (fun y hy n1 n2 => oq y hy (fun h => ?_))) hS1 hz1
        rcases h with h | h | h
        · exact n1 h
        · exact n2 (by omega) h
        · omega
/-- an element put into a list, in its midst too -/
theorem jw_ins (hC : CallFix p m c cc nL s args BIG own) (hX : gX G d0 mi (jA Rf) s) (hRf : ∀ q, Rf q → q < s.heap.size) (hW : WR G d0 Rf ja V F LV ln cp lc H) (hVk : ∀ k i, V k i → k < 10) (hS : va_S (jA Rf) s.heap H locs) {i j x : Nat} (hi : LV i) (hj : j ≤ ln i) (hel : ∀ j, j < ln i → elV V ja (lc i j)) (hx : elV V ja x) (hcap : (cp i = 0 ∧ ln i = 0) ∨ (10 ≤ cp i ∧ ln i < cp i ∧ cp i ≤ 2260)) {index : Nat} (w1 : Cond.methodLink own index yJx4a65c_add_7a177 ∈ BIG) (hsz : ls.size = nL) (hWr : (rest.map fun v => v.category).sum ≤ 8) (hR : 18 ≤ R.frames ∧ 524 ≤ R.locals) (hf : cells + addC (cp i) (ln i) ≤ R.cells ∧ slots + addS (cp i) (ln i) ≤ R.slots) (hdg : decode cc pc = .ok (.invokevirtual index, 3))
    (kk : ∀ (H1 : Heap) (locs1 : List Loc), WR G d0 Rf ja V F LV (fun i' => if i' = i then ln i + 1 else ln i') (fun i' => if i' = i then capN (cp i) (ln i) else cp i') (fun i' y => if i' = i then fin_ (lc i) j x y else lc i' y) H1 → va_S (jA Rf) s.heap H1 locs1 → H.size ≤ H1.size → W p l e R s m args below meth c H1 locs1 (cells + addC (cp i) (ln i)) (slots + addS (cp i) (ln i)) Q (F0 m (pc + 3) ls rest)) : W p l e R s m args below meth c H locs cells slots Q (F0 m pc ls (.ref x :: .int (nI j) :: .ref (ja 10 i) :: rest)) := by
  have hK := hX.1
  have hob : ∀ {k q}, V k q → va_at G.1 gCl (ja k q, .inr (k, F k q)) H := fun hv => hW.ob hv
  obtain ⟨ar, md, wh, h1, h2, h3⟩ := hW
  obtain ⟨ho, hw, hr⟩ := h2 i hi
  obtain ⟨kx, qx, jx, vx, ex⟩ := hx
  have hax : gAny s H x := by rw [ex]; exact gAny_k hK (hob vx) jx
  have hxw : wh x = (kx, qx) := by rw [ex]; exact (h1 _ _ vx).2.1
  have hkx := jx.lt
  have hxq : x ≠ ja 10 i := fun q => by rw [q, hw] at hxw; cases hxw; omega
  have hea : ∀ j, j < ln i → gAny s H (lc i j) := fun j hj => by
    obtain ⟨k, q, a, b, d⟩ := hel j hj
    rw [d]; exact gAny_k hK (hob b) a
  have hew : ∀ j, j < ln i → ∃ k q, k < 10 ∧ wh (lc i j) = (k, q) := fun j hj => by
    obtain ⟨k, q, a, b, d⟩ := hel j hj
    exact ⟨k, q, a.lt, by rw [d]; exact (h1 _ _ b).2.1⟩
  have heq : ∀ j, j < ln i → lc i j ≠ ja 10 i := fun j hj z => by
    obtain ⟨k, q, a, b⟩ := hew j hj
    rw [z, hw] at b
    cases b
    omega
  have hnew : ∀ z : Nat, H.size ≤ z → jA Rf z := fun z hz hq => by
    have := hRf z hq; have := hS.1; omega
  by_cases hlt : ln i < cp i
  · rcases h3 i hi with q | ⟨q1, q2, q3, ha, q5, q6⟩
    · omega
    · have ec : addC (cp i) (ln i) = 0 := if_pos hlt
      have es : addS (cp i) (ln i) = 0 := if_pos hlt
      have en : capN (cp i) (ln i) = cp i := if_pos hlt
      rw [ec, es, en] at kk
      have hqa : ar i ≠ ja 10 i := fun q => by rw [q, hw] at q5; cases q5
      have hxa : x ≠ ar i := fun q => by rw [q, q5] at hxw; cases hxw; omega
      have hea2 : ∀ j, j < ln i → lc i j ≠ ar i := fun j hj z => by
        obtain ⟨k, q, a, b⟩ := hew j hj
        rw [z, q5] at b
        cases b
        omega
      have hA : ∀ z, rvB (ja 10 i) (ar i) H.size z → jA Rf z := fun z h => by
        rcases h with rfl | rfl | h
        · exact hr
        · exact q6
        · exact hnew z h
      refine va_callv (run_V hC (cJ_insN l G (ja 10 i) (ar i) (cp i) (ln i) j x (lc i) (md i) H.size hj hlt (by omega) hqa hxq hxa heq hea2) (As := [.int (nI j), .ref x]) (rest := rest) rfl rfl w1 im_Jx4a65c_add_7a177 se_Jx4a65c_add_7a177 ini_Jx4a65c cd_Jx4a65c_add_7a177 ⟨rfl, na_Jx4a65c_add_7a177⟩ (hB2_blind (P := fun j => j < ln i) (g := lc i)) (ls_recv hK ho rfl) (fun U hU hW => ⟨by rw [hU], by rw [hU]; exact ho, by rw [hU]; exact ha, by rw [hU]; exact gAny.moved hW.alike hax, fun j hj => by rw [hU]; exact gAny.moved hW.alike (hea j hj), hK.warm hW⟩) hsz hWr ⟨by show 12 + 1 + 1 ≤ _; omega, by show 8 + (5 + 11) + 340 ≤ _; omega⟩ ⟨by omega, by omega⟩ rfl hdg) hS (fun z _ h => hA z h) hA (fun u tt H1 locs1 ht_ _ _ hB_ hz1 oq hS1 => ?_)
      rw [ht_] at hB_
      refine kk H1 locs1 (WR.lst h1 h2 h3 hVk hi hB_.1 hB_.2 ⟨q1, by omega, q3⟩ (Or.inl ⟨rfl, q5, q6⟩) (fun z hz n1 n2 => oq z hz (fun h => ?_))) hS1 hz1
      rcases h with h | h | h
      · exact n1 h
      · exact n2 (by omega) h
      · omega
  · rcases hcap with ⟨hc0, hn0⟩ | ⟨hc1, hc2, hc3⟩
    · rcases h3 i hi with ⟨-, -, had⟩ | q
      · have hj0 : j = 0 := by omega
        subst hj0
        have ec : addC (cp i) (ln i) = 1 := if_neg hlt
        have en : capN (cp i) (ln i) = 10 := by unfold capN; rw [if_neg hlt, if_pos hc0]
        have es : addS (cp i) (ln i) = 10 := by unfold addS; rw [if_neg hlt, en]
        rw [ec, es, en, hn0] at kk
        rw [ec, es] at hf
        rw [had, hn0] at ho
        have hA : ∀ z, rvA (ja 10 i) H.size z → jA Rf z := fun z h => by
          rcases h with rfl | h
          · exact hr
          · exact hnew z h
        refine va_callv (run_V hC (cJ_insF l G d0 mi (ja 10 i) x (md i) H.size hxq) (As := [.int (nI 0), .ref x]) (rest := rest) rfl rfl w1 im_Jx4a65c_add_7a177 se_Jx4a65c_add_7a177 ini_Jx4a65c cd_Jx4a65c_add_7a177 ⟨rfl, na_Jx4a65c_add_7a177⟩ fB_blind (ls_recv hK ho rfl) (fun U hU hW => ⟨by rw [hU], by rw [hU]; exact ho, by rw [hU]; exact gAny.moved hW.alike hax, hX.at hS hA hU hW⟩) hsz hWr ⟨by show 12 + 5 + 1 ≤ _; omega, by show 8 + (5 + 11) + 500 ≤ _; omega⟩ hf rfl hdg) hS (fun z _ h => hA z h) hA (fun z tt H1 locs1 ht_ _ _ hB_ hz1 oq hS1 => ?_)
        rw [ht_] at hB_
        obtain ⟨hz, e1, e2⟩ := hB_
        have e3 : LA G z 10 1 (fin_ (lc i) 0 x) H1 := qE_cg e2 (fun j _ => by
          unfold lf fin_
          by_cases q : j < 1
          · rw [if_pos q, if_pos q, if_neg (by omega), if_pos (by omega)]
          · rw [if_neg q, if_neg q])
        refine kk H1 locs1 (WR.lst h1 h2 h3 hVk hi (n' := 0 + 1) e1 e3 ⟨by omega, by omega, by omega⟩ (Or.inr ⟨hz, hnew z hz⟩) (fun y hy n1 n2 => oq y hy (fun h => ?_))) hS1 hz1
        rcases h with h | h
        · exact n1 h
        · omega
      · omega
    · omega
theorem jw_clear (hC : CallFix p m c cc nL s args BIG own) (hX : gX G d0 mi (jA Rf) s) (hRf : ∀ q, Rf q → q < s.heap.size) (hW : WR G d0 Rf ja V F LV ln cp lc H) (hVk : ∀ k i, V k i → k < 10) (hS : va_S (jA Rf) s.heap H locs) {i : Nat} (hi : LV i) {index : Nat} (w1 : Cond.methodLink own index yJx4a65c_clear_da8c8 ∈ BIG) (hsz : ls.size = nL) (hWr : (rest.map fun v => v.category).sum ≤ 8) (hR : 13 ≤ R.frames ∧ 323 ≤ R.locals ∧ cells ≤ R.cells ∧ slots ≤ R.slots) (hdg : decode cc pc = .ok (.invokevirtual index, 3))
    (kk : ∀ (H1 : Heap) (locs1 : List Loc), WR G d0 Rf ja V F LV (fun i' => if i' = i then 0 else ln i') cp lc H1 → va_S (jA Rf) s.heap H1 locs1 → H.size ≤ H1.size → W p l e R s m args below meth c H1 locs1 cells slots Q (F0 m (pc + 3) ls rest)) : W p l e R s m args below meth c H locs cells slots Q (F0 m pc ls (.ref (ja 10 i) :: rest)) := by
  have hK := hX.1
  obtain ⟨ar, md, wh, h1, h2, h3⟩ := hW
  obtain ⟨ho, hw, hr⟩ := h2 i hi
  have hnew : ∀ z : Nat, H.size ≤ z → jA Rf z := fun z hz hq => by
    have := hRf z hq; have := hS.1; omega
  rcases h3 i hi with ⟨hc0, hn0, had⟩ | ⟨q1, q2, q3, ha, q5, q6⟩
  · have ho2 := ho
    rw [had, hn0] at ho2
    have hA : ∀ z, rvA (ja 10 i) H.size z → jA Rf z := fun z h => by
      rcases h with rfl | h
      · exact hr
      · exact hnew z h
    refine va_callv (run_V hC (cJ_clearF l G d0 (ja 10 i) (md i) H.size) (As := []) (rest := rest) rfl rfl w1 im_Jx4a65c_clear_da8c8 se_Jx4a65c_clear_da8c8 ini_Jx4a65c cd_Jx4a65c_clear_da8c8 ⟨rfl, na_Jx4a65c_clear_da8c8⟩ vB_blind (ls_recv hK ho2 rfl) (fun U hU hW => ⟨by rw [hU], by rw [hU]; exact ho2, hK.warm hW⟩) hsz hWr ⟨hR.1, by show 8 + (4 + 11) + 300 ≤ _; omega⟩ ⟨hR.2.2.1, hR.2.2.2⟩ rfl hdg) hS (fun z _ h => hA z h) hA (fun u tt H1 locs1 ht_ _ _ hB_ hz1 oq hS1 => ?_)
    rw [ht_] at hB_
    have w := WR.lst0 (cp := cp) (lc := lc) h1 h2 h3 hVk hi hc0 hB_ (fun z hz n1 => oq z hz (fun h => by
      rcases h with h | h
      · exact n1 h
      · omega))
    refine kk H1 locs1 (w.cg (fun k q hv => ⟨hv, rfl⟩) (fun i' hi' => ⟨hi', ?_, rfl, fun _ _ => rfl⟩)) hS1 hz1
    by_cases q : i' = i
    · rw [if_pos q, q, hn0]
    · rw [if_neg q]
  · have hqa : ar i ≠ ja 10 i := fun q => by rw [q, hw] at q5; cases q5
    have hA : ∀ z, rvB (ja 10 i) (ar i) H.size z → jA Rf z := fun z h => by
      rcases h with rfl | rfl | h
      · exact hr
      · exact q6
      · exact hnew z h
    refine va_callv (run_V hC (cJ_clearN l G (ja 10 i) (ar i) (cp i) (ln i) (lc i) (md i) H.size q2 (by omega) hqa) (As := []) (rest := rest) rfl rfl w1 im_Jx4a65c_clear_da8c8 se_Jx4a65c_clear_da8c8 ini_Jx4a65c cd_Jx4a65c_clear_da8c8 ⟨rfl, na_Jx4a65c_clear_da8c8⟩ vaB_blind (ls_recv hK ho rfl) (fun U hU hW => ⟨by rw [hU], by rw [hU]; exact ho, by rw [hU]; exact ha, hK.warm hW⟩) hsz hWr ⟨hR.1, by show 8 + (4 + 11) + 300 ≤ _; omega⟩ ⟨hR.2.2.1, hR.2.2.2⟩ rfl hdg) hS (fun z _ h => hA z h) hA (fun u tt H1 locs1 ht_ _ _ hB_ hz1 oq hS1 => ?_)
    rw [ht_] at hB_
    have w := WR.lst (n' := 0) (c' := cp i) h1 h2 h3 hVk hi hB_.1 hB_.2 ⟨q1, by omega, q3⟩ (Or.inl ⟨rfl, q5, q6⟩) (fun z hz n1 n2 => oq z hz (fun h => by
      rcases h with h | h | h
      · exact n1 h
      · exact n2 (by omega) h
      · omega))
    refine kk H1 locs1 (w.cg (fun k q hv => ⟨hv, rfl⟩) (fun i' hi' => ⟨hi', rfl, ?_, fun j hj => ?_⟩)) hS1 hz1
    · by_cases q : i' = i
      · rw [if_pos q, q]
      · rw [if_neg q]
    · by_cases q : i' = i
      · rw [if_pos q, q]
      · rw [if_neg q]
theorem jw_rem (hC : CallFix p m c cc nL s args BIG own) (hX : gX G d0 mi (jA Rf) s) (hRf : ∀ q, Rf q → q < s.heap.size) (hW : WR G d0 Rf ja V F LV ln cp lc H) (hVk : ∀ k i, V k i → k < 10) (hS : va_S (jA Rf) s.heap H locs) {i j : Nat} (hi : LV i) (hj : j < ln i) (hel : ∀ j, j < ln i → elV V ja (lc i j)) {index : Nat} (w1 : Cond.methodLink own index yJx4a65c_remove_915e3 ∈ BIG) (hsz : ls.size = nL) (hWr : (rest.map fun v => v.category).sum ≤ 8) (hR : 15 ≤ R.frames ∧ 403 ≤ R.locals ∧ cells ≤ R.cells ∧ slots ≤ R.slots) (hdg : decode cc pc = .ok (.invokevirtual index, 3))
    (kk : ∀ (H1 : Heap) (locs1 : List Loc), WR G d0 Rf ja V F LV (fun i' => if i' = i then ln i - 1 else ln i') cp (fun i' y => if i' = i then frm (lc i) j y else lc i' y) H1 → va_S (jA Rf) s.heap H1 locs1 → H.size ≤ H1.size → W p l e R s m args below meth c H1 locs1 cells slots Q (F0 m (pc + 3) ls (.ref (lc i j) :: rest))) : W p l e R s m args below meth c H locs cells slots Q (F0 m pc ls (.int (nI j) :: .ref (ja 10 i) :: rest)) := by
  have hK := hX.1
  have hob : ∀ {k q}, V k q → va_at G.1 gCl (ja k q, .inr (k, F k q)) H := fun hv => hW.ob hv
  obtain ⟨ar, md, wh, h1, h2, h3⟩ := hW
  obtain ⟨ho, hw, hr⟩ := h2 i hi
  have hea : ∀ j, j < ln i → gAny s H (lc i j) := fun j hj => by
    obtain ⟨k, q, a, b, d⟩ := hel j hj
    rw [d]; exact gAny_k hK (hob b) a
  have heq : ∀ j, j < ln i → lc i j ≠ ja 10 i := fun j hj z => by
    obtain ⟨k, q, a, b, d⟩ := hel j hj
    have := (h1 _ _ b).2.1
    rw [← d, z, hw] at this
    cases this
    have := a.lt; omega
  have hnew : ∀ z : Nat, H.size ≤ z → jA Rf z := fun z hz hq => by
    have := hRf z hq; have := hS.1; omega
  rcases h3 i hi with q | ⟨q1, q2, q3, ha, q5, q6⟩
  · omega
  · have hqa : ar i ≠ ja 10 i := fun q => by rw [q, hw] at q5; cases q5
    have hA : ∀ z, rvB (ja 10 i) (ar i) H.size z → jA Rf z := fun z h => by
      rcases h with rfl | rfl | h
      · exact hr
      · exact q6
      · exact hnew z h
    refine va_callr (run_V hC (cJ_Jx4a65c_remove_915e3 l G (ja 10 i) (ar i) (cp i) (ln i) j (lc i) (md i) H.size hj q2 (by omega) hqa heq) (As := [.int (nI j)]) (rest := rest) rfl rfl w1 im_Jx4a65c_remove_915e3 se_Jx4a65c_remove_915e3 ini_Jx4a65c cd_Jx4a65c_remove_915e3 ⟨rfl, na_Jx4a65c_remove_915e3⟩ (eB_blind (P := fun j => j < ln i) (g := lc i)) (ls_recv hK ho rfl) (fun U hU hW => ⟨by rw [hU], by rw [hU]; exact ho, by rw [hU]; exact ha, fun j hj => by rw [hU]; exact gAny.moved hW.alike (hea j hj), hK.warm hW⟩) hsz hWr ⟨hR.1, by show 8 + (4 + 11) + 380 ≤ _; omega⟩ ⟨hR.2.2.1, hR.2.2.2⟩ rfl hdg) hS (fun z _ h => hA z h) hA (fun _ z tt H1 locs1 ht_ _ _ hB_ hz1 oq hS1 => ?_)
    rw [ht_] at hB_
    obtain ⟨hz, e1, e2⟩ := hB_
    subst hz
    have w := WR.lst (n' := ln i - 1) (c' := cp i) h1 h2 h3 hVk hi e1 e2 ⟨q1, by omega, q3⟩ (Or.inl ⟨rfl, q5, q6⟩) (fun z hz n1 n2 => oq z hz (fun h => by
      rcases h with h | h | h
      · exact n1 h
      · exact n2 (by omega) h
      · omega))
    refine kk H1 locs1 (w.cg (fun k q hv => ⟨hv, rfl⟩) (fun i' hi' => ⟨hi', rfl, ?_, fun _ _ => rfl⟩)) hS1 hz1
    by_cases q : i' = i
    · rw [if_pos q, q]
    · rw [if_neg q]
/-- an element is of the class that its list is of -/
theorem jw_cast (hC : CallFix p m c cc nL s args BIG own) (hK : gK G s) {a k : Nat} {fs : List Value} {q : vw_C} (hat : va_at G.1 gCl (a, .inr (k, fs)) H) (hc : gCl[k]? = some q) {index : Nat} (w1 : Cond.classLink own index q.1 ∈ BIG) (hdg : decode cc pc = .ok (.checkcast index, 3))
    (kk : W p l e R s m args below meth c H locs cells slots Q (F0 m (pc + 3) ls (.ref a :: rest))) : W p l e R s m args below meth c H locs cells slots Q (F0 m pc ls (.ref a :: rest)) :=
  va_castS hC.1 hC.2.1 hC.2.2.2.1 (hC.2.2.2.2 _ w1) (hK.1.1 k _ hc).2 (va_at_cell hK.1 hat hc) hdg kk
end WL
