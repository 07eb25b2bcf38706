/-! LISTS OF THE CLASS BY ROWS; stepping aside, arriving, rings -/
def chE (E : ES) (i n' : Nat) (f' : Nat → Nat) (c' : Nat) : ES := eL_ E (fun i' => if i' = i then n' else eN E i') (fun i' => if i' = i then f' else eL E i') (fun i' => if i' = i then c' else eC E i')
def fre (i : Nat) : Prop := i = 5 ∨ i = 6 ∨ 17 ≤ i
theorem chE_n {M : MS} {E : ES} {i n' c' : Nat} {f' : Nat → Nat} (hi : fre i) (i' : Nat) : jn M (chE E i n' f' c') i' = if i' = i then n' else jn M E i' := by
  unfold fre at hi
  match i' with
  | 0 => rw [if_neg (by omega)]; rfl
  | 1 => rw [if_neg (by omega)]; rfl
  | 2 => rw [if_neg (by omega)]; rfl
  | 3 => rw [if_neg (by omega)]; rfl
  | 4 => rw [if_neg (by omega)]; rfl
  | 5 => rfl
  | 6 => rfl
  | q + 7 =>
    show (if q + 7 < 17 then nL M (q + 7 - 7) else (if q + 7 = i then n' else eN E (q + 7))) = (if q + 7 = i then n' else (if q + 7 < 17 then nL M (q + 7 - 7) else eN E (q + 7)))
    by_cases h : q + 7 < 17
    · rw [if_pos h, if_neg (by omega), if_pos h]
    · rw [if_neg h, if_neg h]
theorem chE_e {E : ES} {i n' c' : Nat} {f' : Nat → Nat} (hi : fre i) (i' j : Nat) : je (chE E i n' f' c') i' j = if i' = i then f' j else je E i' j := by
  unfold fre at hi
  match i' with
  | 0 => rw [if_neg (by omega)]; rfl
  | 1 => rw [if_neg (by omega)]; rfl
  | 2 => rw [if_neg (by omega)]; rfl
  | 3 => rw [if_neg (by omega)]; rfl
  | 4 => rw [if_neg (by omega)]; rfl
  | 5 =>
    show (if 5 = i then f' else eL E 5) j = _
    split <;> rfl
  | 6 =>
    show (if 6 = i then f' else eL E 6) j = _
    split <;> rfl
  | q + 7 =>
    show (if q + 7 < 17 then 3 * (q + 7 - 7) + j else (if q + 7 = i then f' else eL E (q + 7)) j) = (if q + 7 = i then f' j else (if q + 7 < 17 then 3 * (q + 7 - 7) + j else eL E (q + 7) j))
    by_cases h : q + 7 < 17
    · rw [if_pos h, if_neg (by omega), if_pos h]
    · rw [if_neg h, if_neg h]
      split <;> rfl
section LCH
variable {G : gG} {d0 mi : Nat} {Rf : Nat → Prop} {ja : Nat → Nat → Nat} {M : MS} {E : ES} {H H1 : Heap}
theorem WJ.lch {i n' c' : Nat} {f' : Nat → Nat} {g' : Nat → Nat} (hi : fre i) (hL : jLV M i) (hW : WJ G d0 Rf ja M E H) (hR : WR G d0 Rf ja (jV M) (jF ja M E) (jLV M) (fun i' => if i' = i then n' else jn M E i') (fun i' => if i' = i then c' else eC E i') (fun i' j => if i' = i then g' j else jc ja E i' j) H1)
    (hg : ∀ j, j < n' → g' j = ja (jk i) (f' j)) (hv : ∀ j, j < n' → jV M (jk i) (f' j)) (hc : capOK i n' c') : WJ G d0 Rf ja M (chE E i n' f' c') H1 := by
  obtain ⟨o1, o2, o3, o4⟩ := hW.2
  refine ⟨hR.cg (fun k q h => ⟨h, ?_⟩) (fun i' h => ⟨h, chE_n hi i', rfl, fun j hj => ?_⟩), o1, o2, fun i' hi' j hj => ?_, fun i' hi' => ?_⟩
  · match k with
    | 0 => rfl
    | 1 => rfl
    | 2 => rfl
    | 3 => rfl
    | 4 => rfl
    | 5 => rfl
    | 6 => rfl
    | 7 => rfl
    | k + 8 => rfl
  · unfold jc
    rw [chE_e hi]
    by_cases e : i' = i
    · subst e
      rw [if_pos rfl] at hj
      rw [if_pos rfl, if_pos rfl]
      exact (hg j hj).symm
    · rw [if_neg e, if_neg e]
  · rw [chE_n hi] at hj
    rw [chE_e hi]
    by_cases e : i' = i
    · subst e
      rw [if_pos rfl] at hj ⊢
      exact hv j hj
    · rw [if_neg e] at hj ⊢
      exact o3 i' hi' j hj
  · rw [chE_n hi]
    show capOK i' _ (if i' = i then c' else eC E i')
    by_cases e : i' = i
    · subst e; rw [if_pos rfl, if_pos rfl]; exact hc
    · rw [if_neg e, if_neg e]; exact o4 i' hi'
theorem jc_f {i : Nat} (hi : i = 5 ∨ i = 6) (j : Nat) : jc ja E i j = ja (jk i) (eL E i j) := by rcases hi with rfl | rfl <;> rfl
theorem jn_f {i : Nat} (hi : i = 5 ∨ i = 6) : jn M E i = eN E i := by rcases hi with rfl | rfl <;> rfl
end LCH
def uC (E : ES) (i : Nat) : Nat := if eC E i = 0 then 1 else 0
section LRW
variable {p : Program} {l : Launch} {e : Env} {R : Room} {s : State} {m : MethodId} {args : Array Value} {below : List Frame} {meth : Method} {c : Code} {H : Heap} {locs : List Loc} {cells slots : Nat} {Q : State → Prop}
variable {cc : ByteArray} {pc nL index : Nat} {ls : Array Slot} {rest : List Value} {own : String}
variable {G : gG} {d0 mi : Nat} {Rf : Nat → Prop} {ja : Nat → Nat → Nat} {M : MS} {E : ES}
/-- the rings' list, the queue: cleared -/
theorem jr_clear (hC : CallFix p m c cc nL s args BIG own) (hX : gX G d0 mi (jA Rf) s) (hRf : ∀ q, Rf q → q < s.heap.size) (hW : WJ G d0 Rf ja M E H) (hS : va_S (jA Rf) s.heap H locs) {i : Nat} (hi : i = 5 ∨ i = 6) (w1 : Cond.methodLink own index yJx4a65c_clear_da8c8 ∈ BIG) (hsz : ls.size = nL) (hWr : (rest.map fun v => v.category).sum ≤ 8) (hR : 13 ≤ R.frames ∧ 323 ≤ R.locals ∧ cells ≤ R.cells ∧ slots ≤ R.slots) (hdg : decode cc pc = .ok (.invokevirtual index, 3))
    (kk : ∀ (H1 : Heap) (locs1 : List Loc), WJ G d0 Rf ja M (chE E i 0 (eL E i) (eC E i)) H1 → va_S (jA Rf) s.heap H1 locs1 → W p l e R s m args below meth c H1 locs1 cells slots Q (F0 m (pc + 3) ls rest)) : W p l e R s m args below meth c H locs cells slots Q (F0 m pc ls (.ref (ja 10 i) :: rest)) := by
  have hL : jLV M i := Or.inl (by omega)
  refine jw_clear hC hX hRf hW.1 (fun k q h => jV_lt h) hS hL w1 hsz hWr hR hdg (fun H1 locs1 w hS1 _ => kk H1 locs1 ?_ hS1)
  refine WJ.lch (g' := fun j => jc ja E i j) (hi.elim (fun h => Or.inl h) (fun h => Or.inr (Or.inl h))) hL hW (w.cg (fun k q h => ⟨h, rfl⟩) (fun i' h => ⟨h, rfl, ?_, fun j _ => ?_⟩)) (fun j hj => by omega) (fun j hj => by omega) ?_
  · split
    · rename_i q; rw [q]
    · rfl
  · split
    · rename_i q; rw [q]
    · rfl
  · have := hW.cap hL
    exact this.less (Nat.zero_le _) (by omega)
/-- one more element -/
theorem jr_add (hC : CallFix p m c cc nL s args BIG own) (hX : gX G d0 mi (jA Rf) s) (hRf : ∀ q, Rf q → q < s.heap.size) (hW : WJ G d0 Rf ja M E H) (hS : va_S (jA Rf) s.heap H locs) {i x : Nat} (hi : i = 5 ∨ i = 6) (hx : x < nR M) (hn : eN E i < 10) (w1 : Cond.methodLink own index yJx4a65c_add_9ea2d ∈ BIG) (hsz : ls.size = nL) (hWr : (rest.map fun v => v.category).sum ≤ 8) (hR : 19 ≤ R.frames ∧ 561 ≤ R.locals) (hf : cells + uC E i ≤ R.cells ∧ slots + 10 * uC E i ≤ R.slots) (hdg : decode cc pc = .ok (.invokevirtual index, 3))
    (kk : ∀ (r : Int32) (H1 : Heap) (locs1 : List Loc), WJ G d0 Rf ja M (chE E i (eN E i + 1) (fup (eL E i) (eN E i) x) (capN (eC E i) (eN E i))) H1 → va_S (jA Rf) s.heap H1 locs1 → W p l e R s m args below meth c H1 locs1 (cells + uC E i) (slots + 10 * uC E i) Q (F0 m (pc + 3) ls (.int r :: rest))) : W p l e R s m args below meth c H locs cells slots Q (F0 m pc ls (.ref (ja 5 x) :: .ref (ja 10 i) :: rest)) := by
  have hL : jLV M i := Or.inl (by omega)
  have hcap := hW.cap hL
  rw [jn_f hi] at hcap
  have h5 : jk i = 5 := by rcases hi with rfl | rfl <;> rfl
  have hu : addC (eC E i) (jn M E i) ≤ uC E i ∧ addS (eC E i) (jn M E i) ≤ 10 * uC E i := by
    rw [jn_f hi]
    obtain ⟨a, b⟩ := hcap
    unfold addC addS capN uC
    rcases a with ⟨a1, a2⟩ | ⟨a1, a2⟩
    · rw [a1, a2]; decide
    · have h1 : eN E i < eC E i := by omega
      have h2 : ¬ eC E i = 0 := by omega
      simp only [if_pos h1, if_neg h2]
      exact ⟨Nat.le_refl _, Nat.le_refl _⟩
  refine jw_add hC hX hRf hW.1 (fun k q h => jV_lt h) hS hL (hW.elv hL) ⟨5, x, by unfold jo; omega, hx, rfl⟩ (by rw [jn_f hi]; have := hcap.le; exact hcap.1.elim (fun q => Or.inl q) (fun q => Or.inr ⟨q.1, q.2, this⟩)) w1 hsz hWr hR ⟨by omega, by omega⟩ hdg (fun r H1 locs1 w hS1 _ => W.widen (k := cells + uC E i) (n := slots + 10 * uC E i) (by omega) (by omega) (kk r H1 locs1 ?_ hS1))
  rw [jn_f hi] at w
  refine WJ.lch (g' := fun j => fup (jc ja E i) (eN E i) (ja 5 x) j) (hi.elim (fun h => Or.inl h) (fun h => Or.inr (Or.inl h))) hL hW w (fun j hj => ?_) (fun j hj => ?_) (hcap.add (fun q => by omega) (fun _ => by omega))
  · unfold fup
    split
    · rw [h5]
    · exact jc_f hi j
  · rw [h5]
    unfold fup
    split
    · exact hx
    · have := hW.el hL (j := j) (by rw [jn_f hi]; omega)
      rw [h5] at this
      have e : je E i j = eL E i j := by rcases hi with rfl | rfl <;> rfl
      rw [e] at this
      exact this
/-- one more, in the midst -/
theorem jr_ins (hC : CallFix p m c cc nL s args BIG own) (hX : gX G d0 mi (jA Rf) s) (hRf : ∀ q, Rf q → q < s.heap.size) (hW : WJ G d0 Rf ja M E H) (hS : va_S (jA Rf) s.heap H locs) {i x j : Nat} (hi : i = 5 ∨ i = 6) (hx : x < nR M) (hj : j ≤ eN E i) (hn : eN E i < 10) (w1 : Cond.methodLink own index yJx4a65c_add_7a177 ∈ BIG) (hsz : ls.size = nL) (hWr : (rest.map fun v => v.category).sum ≤ 8) (hR : 18 ≤ R.frames ∧ 524 ≤ R.locals) (hf : cells + uC E i ≤ R.cells ∧ slots + 10 * uC E i ≤ R.slots) (hdg : decode cc pc = .ok (.invokevirtual index, 3))
    (kk : ∀ (H1 : Heap) (locs1 : List Loc), WJ G d0 Rf ja M (chE E i (eN E i + 1) (fin_ (eL E i) j x) (capN (eC E i) (eN E i))) H1 → va_S (jA Rf) s.heap H1 locs1 → W p l e R s m args below meth c H1 locs1 (cells + uC E i) (slots + 10 * uC E i) Q (F0 m (pc + 3) ls rest)) : W p l e R s m args below meth c H locs cells slots Q (F0 m pc ls (.ref (ja 5 x) :: .int (nI j) :: .ref (ja 10 i) :: rest)) := by
  have hL : jLV M i := Or.inl (by omega)
  have hcap := hW.cap hL
  rw [jn_f hi] at hcap
  have h5 : jk i = 5 := by rcases hi with rfl | rfl <;> rfl
  have hu : addC (eC E i) (jn M E i) ≤ uC E i ∧ addS (eC E i) (jn M E i) ≤ 10 * uC E i := by
    rw [jn_f hi]
    obtain ⟨a, b⟩ := hcap
    unfold addC addS capN uC
    rcases a with ⟨a1, a2⟩ | ⟨a1, a2⟩
    · rw [a1, a2]; decide
    · have h1 : eN E i < eC E i := by omega
      have h2 : ¬ eC E i = 0 := by omega
      simp only [if_pos h1, if_neg h2]
      exact ⟨Nat.le_refl _, Nat.le_refl _⟩
  refine jw_ins hC hX hRf hW.1 (fun k q h => jV_lt h) hS hL (j := j) (by rw [jn_f hi]; exact hj) (hW.elv hL) ⟨5, x, by unfold jo; omega, hx, rfl⟩ (by rw [jn_f hi]; have := hcap.le; exact hcap.1.elim (fun q => Or.inl q) (fun q => Or.inr ⟨q.1, by omega, this⟩)) w1 hsz hWr hR ⟨by omega, by omega⟩ hdg (fun H1 locs1 w hS1 _ => W.widen (k := cells + uC E i) (n := slots + 10 * uC E i) (by omega) (by omega) (kk H1 locs1 ?_ hS1))
  rw [jn_f hi] at w
  have hold : ∀ q, q < eN E i → eL E i q < nR M := fun q hq => by
    have := hW.el hL (j := q) (by rw [jn_f hi]; omega)
    rw [h5] at this
    have e : je E i q = eL E i q := by rcases hi with rfl | rfl <;> rfl
    rw [e] at this
    exact this
  refine WJ.lch (g' := fun q => fin_ (jc ja E i) j (ja 5 x) q) (hi.elim (fun h => Or.inl h) (fun h => Or.inr (Or.inl h))) hL hW w (fun q hq => ?_) (fun q hq => ?_) (hcap.add (fun q => by omega) (fun _ => by omega))
  · unfold fin_
    split
    · exact jc_f hi q
    · split
      · rw [h5]
      · exact jc_f hi _
  · rw [h5]
    unfold fin_
    split
    · exact hold q (by omega)
    · split
      · exact hx
      · exact hold _ (by omega)
end LRW
/-! rings, one robot after another -/
def tqM (M : MS) (r : Nat) : Nat → MS
  | 0 => M
  | j + 1 => mvF (tqM M r j) (rgI M r j) (M 24 (rgI M r j))
def mem_ (M : MS) (r n k : Nat) : Bool := anyB (fun i => decide (rgI M r i = k)) n
theorem mem_t {M : MS} {r n k : Nat} : mem_ M r n k = true ↔ ∃ i, i < n ∧ rgI M r i = k := by unfold mem_; rw [anyB_t]; simp
theorem mem_s {M : MS} {r n k : Nat} : mem_ M r (n + 1) k = if k = rgI M r n then true else mem_ M r n k := by
  rw [Bool.eq_iff_iff, mem_t]
  by_cases e : k = rgI M r n
  · rw [if_pos e]; exact ⟨fun _ => rfl, fun _ => ⟨n, by omega, e.symm⟩⟩
  · rw [if_neg e, mem_t]
    exact ⟨fun ⟨i, hi, h⟩ => ⟨i, by have : i ≠ n := fun q => e (by rw [← h, q]); omega, h⟩, fun ⟨i, hi, h⟩ => ⟨i, by omega, h⟩⟩
theorem tq_row {M : MS} {r k : Nat} (h1 : ¬ k = 18) (h2 : ¬ k = 24) (h3 : ¬ k = 23) (h4 : ¬ k = 28) : ∀ n, tqM M r n k = M k
  | 0 => rfl
  | n + 1 => by
    show mvF _ _ _ k = _
    unfold mvF
    rw [mset_n _ _ _ h4, mset_n _ _ _ h3, mset_n _ _ _ h2, mset_n _ _ _ h1]
    exact tq_row h1 h2 h3 h4 n
theorem tq_28 {M : MS} {r : Nat} : ∀ n, tqM M r n 28 = upd (M 28) 0 (M 28 0 + nI n)
  | 0 => by
    show M 28 = upd (M 28) 0 (M 28 0 + nI 0)
    funext q
    unfold upd
    split
    · rename_i h; rw [h, show nI 0 = 0 from rfl]; simp
    · rfl
  | n + 1 => by
    show mset (mset (mset (mset (tqM M r n) 18 _ _) 24 _ _) 23 _ _) 28 0 (tqM M r n 28 0 + 1) 28 = _
    rw [mset_s]
    show upd (tqM M r n 28) 0 _ = _
    rw [tq_28 n, upd_s, upd_upd, Int32.add_assoc, nI_1]
theorem tq_rob {M : MS} {r : Nat} (i : Nat) : ∀ n, tqM M r n 18 i = (if mem_ M r n i = true then M 24 i else M 18 i) ∧ tqM M r n 24 i = (if mem_ M r n i = true then -1 else M 24 i) ∧ tqM M r n 23 i = (if mem_ M r n i = true then -1 else M 23 i)
  | 0 => ⟨rfl, rfl, rfl⟩
  | n + 1 => by
    obtain ⟨a, b, c⟩ := tq_rob (M := M) (r := r) i n
    rw [mem_s]
    have e18 : tqM M r (n + 1) 18 i = upd (tqM M r n 18) (rgI M r n) (M 24 (rgI M r n)) i := rfl
    have e24 : tqM M r (n + 1) 24 i = upd (tqM M r n 24) (rgI M r n) (-1) i := rfl
    have e23 : tqM M r (n + 1) 23 i = upd (tqM M r n 23) (rgI M r n) (-1) i := rfl
    rw [e18, e24, e23]
    by_cases e : i = rgI M r n
    · rw [if_pos e, if_pos rfl, if_pos rfl, if_pos rfl, ← e, upd_s, upd_s, upd_s]; exact ⟨rfl, rfl, rfl⟩
    · rw [if_neg e, upd_n _ _ e, upd_n _ _ e, upd_n _ _ e]; exact ⟨a, b, c⟩
theorem trn_28 {M : MS} {mem : Nat → Bool} : ∀ n, trnGo M mem n 28 = upd (M 28) 0 (M 28 0 + nI (fb_ct mem n))
  | 0 => by
    show M 28 = upd (M 28) 0 (M 28 0 + nI 0)
    funext q
    unfold upd
    split
    · rename_i h; rw [h, show nI 0 = 0 from rfl]; simp
    · rfl
  | n + 1 => by
    rw [fb_ct_succ]
    unfold trnGo
    by_cases h : mem n = true
    · rw [if_pos h, if_pos h]
      show upd (trnGo M mem n 28) 0 (trnGo M mem n 28 0 + 1) = _
      rw [trn_28 n, upd_s, upd_upd, Int32.add_assoc, nI_1]
    · rw [if_neg h, if_neg h]; exact trn_28 n
theorem mem_ct {M : MS} {r : Nat} (hr : r < nR M) (h : 0 < rgN M r) : ∀ n, n ≤ rgN M r → fb_ct (mem_ M r n) (nR M) = n
  | 0, _ => fb_ct_zero.mpr (fun k _ => rfl)
  | n + 1, hn => by
    have ih := mem_ct hr h n (by omega)
    have hlt := ring_lt hr h n (by omega)
    have hno : mem_ M r n (rgI M r n) = false := by
      cases e : mem_ M r n (rgI M r n) with
      | false => rfl
      | true =>
        obtain ⟨i, hi, q⟩ := mem_t.mp e
        exact absurd q (ring_inj hi (by omega))
    have hu := fb_ct_upd (mem_ M r n) true hlt
    rw [ih, hno] at hu
    have hc : fb_ct (mem_ M r (n + 1)) (nR M) = fb_ct (fun k => if k = rgI M r n then true else mem_ M r n k) (nR M) := fb_ct_cong (fun k _ => mem_s)
    rw [hc]
    simpa using hu
theorem tq_trn {M : MS} {r : Nat} (hr : r < nR M) (h : 0 < rgN M r) : mset (tqM M r (rgN M r)) 29 0 (tqM M r (rgN M r) 29 0 + 1) = trnF M r := by
  have hm : ∀ k, rgM M r k = mem_ M r (rgN M r) k := fun k => rfl
  have hin : ∀ i, mem_ M r (rgN M r) i = true → i < nR M := fun i q => by
    obtain ⟨j, hj, e⟩ := mem_t.mp q
    rw [← e]; exact ring_lt hr h j (by omega)
  unfold trnF
  have e29 : tqM M r (rgN M r) 29 = M 29 := tq_row (by decide) (by decide) (by decide) (by decide) _
  rw [e29]
  funext k
  by_cases k29 : k = 29
  · subst k29
    rw [mset_s, mset_s, e29, trn_row (by decide) (by decide) (by decide) (by decide)]
  · rw [mset_n _ _ _ k29, mset_n _ _ _ k29]
    have cond : ∀ i, (i < nR M ∧ rgM M r i = true) ↔ mem_ M r (rgN M r) i = true := fun i => ⟨fun q => q.2, fun q => ⟨hin i q, q⟩⟩
    by_cases k18 : k = 18
    · subst k18
      funext i
      rw [(tq_rob i _).1, (trn_rob i _).1]
      simp only [cond]
    · by_cases k24 : k = 24
      · subst k24
        funext i
        rw [(tq_rob i _).2.1, (trn_rob i _).2.1]
        simp only [cond]
      · by_cases k23 : k = 23
        · subst k23
          funext i
          rw [(tq_rob i _).2.2, (trn_rob i _).2.2]
          simp only [cond]
        · by_cases k28 : k = 28
          · subst k28
            rw [tq_28, trn_28]
            have : fb_ct (rgM M r) (nR M) = rgN M r := mem_ct hr h _ (Nat.le_refl _)
            rw [this]
          · rw [tq_row k18 k24 k23 k28, trn_row k18 k24 k23 k28]
noncomputable def bkM (M : MS) (lo hi : Nat) : MS := if yldB M lo hi = true then yldG M lo hi else if yldB M hi lo = true then yldG M hi lo else mset M 31 0 (M 31 0 + 1)
theorem brk_rfl (M : MS) (r : Nat) : brkF M r = bkM M (if abvB M r ((nxtA M r).getD 0) = true then (nxtA M r).getD 0 else r) (if abvB M r ((nxtA M r).getD 0) = true then r else (nxtA M r).getD 0) := rfl
theorem brk_bk {M : MS} {r o : Nat} (ho : nxtA M r = some o) : brkF M r = bkM M (if abvB M r o = true then o else r) (if abvB M r o = true then r else o) := by
  rw [brk_rfl, ho]; rfl
theorem DK_bk (M : MS) (lo hi : Nat) : DK M (bkM M lo hi) := by
  unfold bkM
  split
  · exact DK_rows rfl rfl rfl rfl (fun _ _ _ => rfl)
  · split
    · exact DK_rows rfl rfl rfl rfl (fun _ _ _ => rfl)
    · exact DK_rows rfl rfl rfl rfl (fun _ _ _ => rfl)
theorem DK_res {B : Nat} {M : MS} {r : Nat} (hI : INV B M) (hr : r < nR M) : DK M (resS M r) := by
  have dead : ∀ q, q < nR M → M 20 q = 5 → M 24 q = -1 := fun q hq h5 => by
    rcases (hI.r.1 q hq).2.2.1 with z | ⟨-, z⟩
    · exact z
    · rw [h5] at z; exact absurd z (by decide)
  unfold resS
  split
  · refine DK_rows ((trn_kpt M r) 17 rfl) ((trn_kpt M r) 2 rfl) ((trn_kpt M r) 3 rfl) (trnF_row (by decide) (by decide) (by decide) rfl) (fun q hq h5 => ?_)
    rw [(trnF_rob hq).1]
    split
    · rename_i hm
      obtain ⟨i, hi, e⟩ := rgM_t.mp hm
      have := (ring_spec (M := M) (r := r) (by omega)).2.2.1 i hi
      rw [e] at this
      exact absurd (dead q hq h5) (nxtA_lt this).2.2
    · rfl
  · split
    · rw [brk_rfl]; exact DK_bk M _ _
    · exact DK.rf
/-- an ask is kept, or is over -/
def AK (M M' : MS) : Prop := nR M' = nR M ∧ M' 25 = M 25 ∧ ∀ r, r < nR M → M' 24 r = -1 ∨ M' 24 r = M 24 r
theorem AK.rf {M : MS} : AK M M := ⟨rfl, rfl, fun _ _ => Or.inr rfl⟩
theorem AK.tr {M M1 M2 : MS} (h : AK M M1) (h2 : AK M1 M2) : AK M M2 := ⟨h2.1.trans h.1, h2.2.1.trans h.2.1, fun r hr => by
  rcases h2.2.2 r (by rw [h.1]; exact hr) with q | q
  · exact Or.inl q
  · rcases h.2.2 r hr with z | z
    · exact Or.inl (q.trans z)
    · exact Or.inr (q.trans z)⟩
theorem AS.keep {M M' : MS} {E E' : ES} (h : AS M E) (hk : AK M M') (he : eS E' = eS E) : AS M' E' := fun r hr ha => by
  rw [hk.1] at hr
  rcases hk.2.2 r hr with q | q
  · exact absurd q ha
  · rw [he, hk.2.1]; exact h r hr (by rw [← q]; exact ha)
theorem AK_mv (M : MS) (r : Nat) (x : Int32) : AK M (mvF M r x) := ⟨rfl, rfl, fun q _ => by
  show upd (M 24) r (-1) q = -1 ∨ upd (M 24) r (-1) q = M 24 q
  by_cases e : q = r
  · subst e; exact Or.inl (upd_s _ _ _)
  · exact Or.inr (upd_n _ _ e)⟩
theorem AK_yld (M : MS) (r o : Nat) : AK M (yldG M r o) := ⟨rfl, rfl, fun q _ => by
  show upd (M 24) r (-1) q = -1 ∨ upd (M 24) r (-1) q = M 24 q
  by_cases e : q = r
  · subst e; exact Or.inl (upd_s _ _ _)
  · exact Or.inr (upd_n _ _ e)⟩
theorem AK_bec (M : MS) (r : Nat) (x : Int32) : AK M (becF M r x) := ⟨rfl, rfl, fun q _ => by
  show upd (M 24) r (-1) q = -1 ∨ upd (M 24) r (-1) q = M 24 q
  by_cases e : q = r
  · subst e; exact Or.inl (upd_s _ _ _)
  · exact Or.inr (upd_n _ _ e)⟩
theorem AK_bk (M : MS) (lo hi : Nat) : AK M (bkM M lo hi) := by
  unfold bkM
  split
  · exact AK_yld M _ _
  · split
    · exact AK_yld M _ _
    · exact ⟨rfl, rfl, fun _ _ => Or.inr rfl⟩
theorem AK_res (M : MS) (r : Nat) : AK M (resS M r) := by
  unfold resS
  split
  · refine ⟨(trn_kpt M r).eR, trnF_row (by decide) (by decide) (by decide) rfl, fun q hq => ?_⟩
    rw [(trnF_rob hq).2.1]
    split
    · exact Or.inl rfl
    · exact Or.inr rfl
  · split
    · rw [brk_rfl]; exact AK_bk M _ _
    · exact AK.rf
theorem AK_asS (M : MS) (r : Nat) : AK M (asS M r) := by
  unfold asS
  split
  · unfold asdF
    split
    · exact AK.rf
    · exact AK_mv M r _
  · exact AK.rf
theorem AK_arr (M : MS) (r : Nat) : AK M (arrF M r) := by
  unfold arrF
  split
  · exact AK_bec M r _
  · exact AK.rf
theorem itR_AK {f : MS → Nat → MS} (hf : ∀ M r, AK M (f M r)) (M : MS) : ∀ n, AK M (itR f n M)
  | 0 => AK.rf
  | n + 1 => (itR_AK hf M n).tr (hf _ n)
