/-! THE WORLD GROWS, in general: a new object, at the end of its list, and perhaps a new list -/
section NW2
variable {G : gG} {d0 : Nat} {Rf : Nat → Prop} {ja : Nat → Nat → Nat} {V : Nat → Nat → Prop} {F : Nat → Nat → List Value} {LV : Nat → Prop} {ln cp : Nat → Nat} {lc : Nat → Nat → Nat} {H H1 : Heap}
theorem WR.new2 (h : WR G d0 Rf ja V F LV ln cp lc H) {k i q il ql : Nat} (hVk : ∀ k i, V k i → k < 10) (hk : k < 10) (hq : q = H.size) (hql : q < ql) (hR : ¬ Rf q) (hRl : ¬ Rf ql) {fs : List Value} {md0 : Int32} (e1 : va_at G.1 gCl (q, .inr (k, fs)) H1) (el : LO G ql d0 0 md0 H1) (oq : ∀ z : Nat, z < H.size → H1[z]? = H[z]?) (hn : ¬ V k i) (hnl : ¬ LV il) : WR G d0 Rf (fun k' i' => if k' = k ∧ i' = i then q else if k' = 10 ∧ i' = il then ql else ja k' i') (fun k' i' => V k' i' ∨ (k' = k ∧ i' = i)) (fun k' i' => if k' = k ∧ i' = i then fs else F k' i') (fun i' => LV i' ∨ i' = il) (fun i' => if i' = il then 0 else ln i') (fun i' => if i' = il then 0 else cp i') lc H1 := by
  obtain ⟨ar, md, wh, h1, h2, h3⟩ := h
  refine ⟨fun i' => if i' = il then d0 else ar i', fun i' => if i' = il then md0 else md i', fun z => if z = q then (k, i) else if z = ql then (10, il) else wh z, fun k' i' hv' => ?_, fun i' hi => ?_, fun i' hi => ?_⟩
  · by_cases e : k' = k ∧ i' = i
    · obtain ⟨rfl, rfl⟩ := e
      dsimp only
      rw [if_pos ⟨rfl, rfl⟩, if_pos ⟨rfl, rfl⟩, if_pos rfl]
      exact ⟨e1, rfl, hR⟩
    · have hv := hv'.resolve_right e
      have hk' := hVk k' i' hv
      dsimp only
      rw [if_neg e, if_neg e, if_neg (by omega)]
      obtain ⟨a, b, c⟩ := h1 k' i' hv
      have hl := a.lt
      dsimp only at hl
      rw [if_neg (by omega), if_neg (by omega)]
      exact ⟨a.kept (oq _ hl), b, c⟩
  · dsimp only
    rw [if_neg (show ¬ (10 = k ∧ i' = i) by omega)]
    by_cases e : i' = il
    · subst e
      rw [if_pos ⟨rfl, rfl⟩, if_pos rfl, if_pos rfl, if_pos rfl, if_neg (by omega), if_pos rfl]
      exact ⟨el, rfl, hRl⟩
    · rw [if_neg (fun z => e z.2), if_neg e, if_neg e, if_neg e]
      obtain ⟨a, b, c⟩ := h2 i' (hi.resolve_right e)
      have hl := a.lt
      dsimp only at hl
      rw [if_neg (by omega), if_neg (by omega)]
      exact ⟨a.kept (oq _ hl), b, c⟩
  · by_cases e : i' = il
    · subst e
      dsimp only
      rw [if_pos rfl, if_pos rfl, if_pos rfl]
      exact Or.inl ⟨rfl, rfl, rfl⟩
    · dsimp only
      rw [if_neg e, if_neg e, if_neg e]
      rcases h3 i' (hi.resolve_right e) with z | ⟨q1, q2, q3, q4, q5, q6⟩
      · exact Or.inl z
      · have hl := q4.lt
        dsimp only at hl ⊢
        rw [if_neg (by omega), if_neg (by omega)]
        exact Or.inr ⟨q1, q2, q3, q4.kept (oq _ hl), q5, q6⟩
end NW2
theorem okT.mono {M M' : MS} {x : Int32} (h : okT M x) (hT : nT M ≤ nT M') : okT M' x := h.elim Or.inl (fun ⟨t, a, b⟩ => Or.inr ⟨t, by omega, b⟩)
theorem okN.mono {M M' : MS} {x : Int32} (h : okN M x) (hT : nS M ≤ nS M') : okN M' x := h.elim Or.inl (fun ⟨t, a, b⟩ => Or.inr ⟨t, by omega, b⟩)
theorem okK.mono {M M' : MS} {x : Int32} (h : okK M x) (hV : ∀ k, VL M k = true → VL M' k = true) : okK M' x := h.elim Or.inl (fun ⟨t, a, b⟩ => Or.inr ⟨t, hV t a, b⟩)
theorem ptOK.mono {M M' : MS} (h : ptOK M) (hT : nT M ≤ nT M') (hS : nS M ≤ nS M') (hO : nO M ≤ nO M') (hV : ∀ k, VL M k = true → VL M' k = true) (hR : ∀ r, r < nR M' → (r < nR M ∧ M' 21 r = M 21 r ∧ M' 22 r = M 22 r) ∨ (M' 21 r = -1 ∧ M' 22 r = -1)) (hL : ∀ k, VL M' k = true → (VL M k = true ∧ M' 14 k = M 14 k) ∨ M' 14 k = -1) (h34 : M' 34 = M 34) (h35 : M' 35 = M 35) (h36 : M' 36 = M 36) (h11 : ∀ o, nO M' ≤ o → o < 10 → nL M' o = 0) : ptOK M' := by
  obtain ⟨p1, p2, p3, p4, p5⟩ := h
  have eP : nP M' = nP M := by unfold nP; rw [h34]
  refine ⟨fun r hr => ?_, fun k hk => ?_, fun i hi => ?_, by rw [h34, eP]; exact p4, h11⟩
  · rcases hR r hr with ⟨a, b, c⟩ | ⟨b, c⟩
    · rw [b, c]; exact ⟨(p1 r a).1.mono hT, (p1 r a).2.mono hV⟩
    · rw [b, c]; exact ⟨Or.inl rfl, Or.inl rfl⟩
  · rcases hL k hk with ⟨a, b⟩ | b
    · rw [b]; exact (p2 k a).mono hS
    · rw [b]; exact Or.inl rfl
  · rw [eP] at hi
    obtain ⟨⟨t, a, b⟩, o, c, d⟩ := p3 i hi
    rw [h35, h36]
    exact ⟨⟨t, by omega, b⟩, o, by omega, d⟩
theorem WJ.addG {G : gG} {d0 : Nat} {Rf : Nat → Prop} {ja ja1 : Nat → Nat → Nat} {M M' : MS} {E E' : ES} {Hb H : Heap} {κ n L0 q : Nat} {NL : Nat → Prop} {V1 : Nat → Nat → Prop} {F1 : Nat → Nat → List Value} {LV1 : Nat → Prop} {ln1 cp1 : Nat → Nat} {lc1 : Nat → Nat → Nat}
    (hW : WJ G d0 Rf ja M E Hb) (hR : WR G d0 Rf ja1 V1 F1 LV1 ln1 cp1 lc1 H)
    (h1 : ∀ k i, jV M k i → ja1 k i = ja k i) (h2 : ∀ i, jLV M i → ja1 10 i = ja 10 i) (hq1 : ja1 κ n = q)
    (hV : ∀ k i, jV M' k i → jV M k i ∨ (k = κ ∧ i = n)) (hVm : ∀ k i, jV M k i → jV M' k i) (hVn : jV M' κ n) (hVo : ¬ jV M κ n)
    (hLv : ∀ i, jLV M' i → jLV M i ∨ NL i) (hNL : ∀ i, NL i → 7 ≤ i ∧ ¬ jLV M i) (hL0 : jLV M L0) (hk0 : jk L0 = κ)
    (hF : ∀ k i, jV M k i → jF ja1 M' E' k i = jF ja1 M E k i)
    (hn : ∀ i, jLV M i → jn M' E' i = if i = L0 then jn M E L0 + 1 else jn M E i) (hnN : ∀ i, NL i → jn M' E' i = 0 ∧ eC E' i = 0)
    (hc : ∀ i, jLV M i → eC E' i = if i = L0 then capN (eC E L0) (jn M E L0) else eC E i)
    (hj : ∀ i j, jLV M i → j < jn M E i → je E' i j = je E i j) (hj0 : je E' L0 (jn M E L0) = n)
    (hC : CNT M') (hp : ptOK M') (hcap : capOK L0 (jn M E L0 + 1) (capN (eC E L0) (jn M E L0)))
    (hV1 : ∀ k i, (jV M k i ∨ (k = κ ∧ i = n)) → V1 k i) (hF1 : ∀ k i, F1 k i = if k = κ ∧ i = n then jF ja1 M' E' κ n else jF ja M E k i)
    (hL1 : ∀ i, jLV M i ∨ NL i → LV1 i)
    (hl1 : ∀ i, jLV M i → ln1 i = (if i = L0 then jn M E L0 + 1 else jn M E i) ∧ cp1 i = (if i = L0 then capN (eC E L0) (jn M E L0) else eC E i) ∧ ∀ j, j < ln1 i → lc1 i j = if i = L0 ∧ j = jn M E L0 then q else jc ja E i j)
    (hlN : ∀ i, NL i → ln1 i = 0 ∧ cp1 i = 0) : WJ G d0 Rf ja1 M' E' H := by
  have hne : ∀ k i, jV M k i → ¬ (k = κ ∧ i = n) := fun k i hv e => hVo (by rw [← e.1, ← e.2]; exact hv)
  refine WJ.grow hW hR h1 h2 (fun k i hv => ⟨hV1 k i (hV k i hv), ?_⟩) (fun i hi => ?_) ⟨hC, hp, fun i hi j hj9 => ?_, fun i hi => ?_⟩
  · rcases hV k i hv with a | a
    · exact Or.inl ⟨a, by rw [hF1, if_neg (hne k i a)], hF k i a⟩
    · refine Or.inr ?_
      rw [hF1, if_pos a, a.1, a.2]
  · rcases hLv i hi with a | a
    · obtain ⟨b, c, d⟩ := hl1 i a
      refine ⟨hL1 i (Or.inl a), by rw [hn i a, b], by rw [hc i a, c], fun j hj9 => ?_⟩
      rw [d j hj9]
      unfold jc
      by_cases e : i = L0 ∧ j = jn M E L0
      · rw [if_pos e, e.1, e.2, hj0, hk0, hq1]
      · rw [if_neg e]
        have hlt : j < jn M E i := by
          rw [b] at hj9
          by_cases e1 : i = L0
          · rw [if_pos e1] at hj9
            have : j ≠ jn M E L0 := fun z => e ⟨e1, z⟩
            rw [e1]; omega
          · rw [if_neg e1] at hj9; exact hj9
        rw [hj i j a hlt]
        exact h1 _ _ (hW.el a hlt)
    · obtain ⟨b, c⟩ := hlN i a
      refine ⟨hL1 i (Or.inr a), by rw [(hnN i a).1, b], by rw [(hnN i a).2, c], fun j hj9 => by omega⟩
  · rcases hLv i hi with a | a
    · rw [hn i a] at hj9
      by_cases e1 : i = L0
      · rw [if_pos e1] at hj9
        by_cases e2 : j = jn M E L0
        · rw [e1, e2, hj0, hk0]; exact hVn
        · have hlt : j < jn M E i := by rw [e1]; omega
          rw [hj i j a hlt]; exact hVm _ _ (hW.el a hlt)
      · rw [if_neg e1] at hj9
        rw [hj i j a hj9]; exact hVm _ _ (hW.el a hj9)
    · rw [(hnN i a).1] at hj9; omega
  · rcases hLv i hi with a | a
    · rw [hn i a, hc i a]
      by_cases e1 : i = L0
      · rw [if_pos e1, if_pos e1, e1]; exact hcap
      · rw [if_neg e1, if_neg e1]; exact hW.cap a
    · rw [(hnN i a).1, (hnN i a).2]
      have := (hNL i a).1
      exact ⟨Or.inl ⟨rfl, rfl⟩, by rw [if_neg (by omega)]; omega⟩
