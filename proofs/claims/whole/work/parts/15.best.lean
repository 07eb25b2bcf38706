/-! THE BEST OF MANY; neighbours as the code finds them; distances as numbers -/
def frX (M : MS) (x : Int32) (q : Nat) : Bool := opnB M q && decide (¬ nI q = x)
def bst (f : Nat → Option (Nat × Nat)) : Nat → Option (Nat × Nat)
  | 0 => none
  | n + 1 => match f n with
    | none => bst f n
    | some p => match bst f n with
      | none => some p
      | some p0 => if p.2 < p0.2 then some p else some p0
theorem bst_skip {f : Nat → Option (Nat × Nat)} {n : Nat} (h : f n = none) : bst f (n + 1) = bst f n := by simp only [bst, h]
theorem bst_new {f : Nat → Option (Nat × Nat)} {n : Nat} {p : Nat × Nat} (h : f n = some p) (h0 : bst f n = none) : bst f (n + 1) = some p := by simp only [bst, h, h0]
theorem bst_lt {f : Nat → Option (Nat × Nat)} {n : Nat} {p p0 : Nat × Nat} (h : f n = some p) (h0 : bst f n = some p0) (hl : p.2 < p0.2) : bst f (n + 1) = some p := by simp only [bst, h, h0, if_pos hl]
theorem bst_ge {f : Nat → Option (Nat × Nat)} {n : Nat} {p p0 : Nat × Nat} (h : f n = some p) (h0 : bst f n = some p0) (hl : ¬ p.2 < p0.2) : bst f (n + 1) = some p0 := by simp only [bst, h, h0, if_neg hl]
theorem bst_in {f : Nat → Option (Nat × Nat)} {p : Nat × Nat} : ∀ {n : Nat}, bst f n = some p → ∃ i, i < n ∧ f i = some p
  | 0, h => by simp [bst] at h
  | n + 1, h => by
    cases hf : f n with
    | none => rw [bst_skip hf] at h; obtain ⟨i, a, b⟩ := bst_in h; exact ⟨i, by omega, b⟩
    | some q =>
      cases hb : bst f n with
      | none => rw [bst_new hf hb] at h; cases h; exact ⟨n, by omega, hf⟩
      | some q0 =>
        by_cases hl : q.2 < q0.2
        · rw [bst_lt hf hb hl] at h; cases h; exact ⟨n, by omega, hf⟩
        · rw [bst_ge hf hb hl] at h; cases h; obtain ⟨i, a, b⟩ := bst_in hb; exact ⟨i, by omega, b⟩
/-- a cell's neighbours with their distances -/
def nbF (d : Nat → Option Nat) (j w : Nat) : Option (Nat × Nat) := (nbr j w).bind (fun c => (d c).map (fun n => (c, n)))
def nrst (d : Nat → Option Nat) (j : Nat) : Option (Nat × Nat) := bst (nbF d j) 4
theorem nbF_n {d : Nat → Option Nat} {j w : Nat} (h : nbr j w = none) : nbF d j w = none := by simp [nbF, h]
theorem nbF_d {d : Nat → Option Nat} {j w c : Nat} (h : nbr j w = some c) (h2 : d c = none) : nbF d j w = none := by simp [nbF, h, h2]
theorem nbF_s {d : Nat → Option Nat} {j w c n : Nat} (h : nbr j w = some c) (h2 : d c = some n) : nbF d j w = some (c, n) := by simp [nbF, h, h2]
theorem nbF_in {d : Nat → Option Nat} {j w : Nat} {p : Nat × Nat} (hj : j < 64) (hw : w < 4) (h : nbF d j w = some p) : p.1 < 64 ∧ d p.1 = some p.2 := by
  unfold nbF at h
  cases hn : nbr j w with
  | none => rw [hn] at h; cases h
  | some c =>
    rw [hn] at h
    cases hd : d c with
    | none => simp [hd] at h
    | some n => simp [hd] at h; subst h; exact ⟨nbr_lt j hj w hw c hn, hd⟩
theorem bst_nb {d : Nat → Option Nat} {j k : Nat} {p : Nat × Nat} (hj : j < 64) (hk : k ≤ 4) (h : bst (nbF d j) k = some p) : p.1 < 64 ∧ d p.1 = some p.2 := by
  obtain ⟨i, a, b⟩ := bst_in h
  exact nbF_in hj (by omega) b
/-- the distance of a cell to another one -/
noncomputable def dGM (M : MS) (f t : Nat) : Option Nat := if f = t then some 0 else (nrst (dS (frX M (-1)) t) f).map (fun p => p.2 + 1)
/-- the code's neighbour -/
def nbrJ (j way : Nat) : Int32 :=
  if inB (nI (j % 8) + (if way = 1 then -1 else if way = 2 then 1 else 0)) 8 = true ∧ inB (nI (j / 8) + (if way = 0 then -1 else if way = 3 then 1 else 0)) 8 = true then 8 * (nI (j / 8) + (if way = 0 then -1 else if way = 3 then 1 else 0)) + (nI (j % 8) + (if way = 1 then -1 else if way = 2 then 1 else 0)) else -1
theorem nbr_ok : ∀ j, j < 64 → ∀ way, way < 4 → nbrJ j way = oI (nbr j way) := by decide +kernel
/-- what is laid is below 64 -/
theorem wk_path {O : Nat → Bool} {t : Nat} {F : Nat → Option Nat} {fnd : Nat → Nat} {many k w : Nat} (h : BF O t F fnd many k w) {c n : Nat} (hn : F c = some n) (hi : ∀ i, i < many → fD F (fnd i) ≤ i) : n < 64 := by
  obtain ⟨i, a, b⟩ := h.2.2.2.1 c (by rw [hn]; exact fun q => by cases q)
  have h1 := hi i a
  unfold fD at h1
  rw [b, hn] at h1
  have h2 : n ≤ i := h1
  have h3 := BF_many h
  omega
theorem BN_push {O : Nat → Bool} {t : Nat} {F : Nat → Option Nat} {fnd : Nat → Nat} {many k w c : Nat} (h : BF O t F fnd many k w) (hk : k < many) (hF : F c = none) (hi : ∀ i, i < many → fD F (fnd i) ≤ i) :
    ∀ i, i < many + 1 → fD (fun q => if q = c then some (fD F (fnd k) + 1) else F q) ((fun i => if i = many then c else fnd i) i) ≤ i := by
  intro i hi1
  unfold fD
  dsimp only
  by_cases e : i = many
  · rw [if_pos e, if_pos rfl]
    have := hi k hk
    unfold fD at this
    show (F (fnd k)).getD 0 + 1 ≤ i
    omega
  · rw [if_neg e]
    have hne : fnd i ≠ c := by
      intro q
      obtain ⟨n, a, -⟩ := h.2.2.1 i (by omega)
      rw [q, hF] at a
      cases a
    rw [if_neg hne]
    exact hi i (by omega)
theorem dS_lt {O : Nat → Bool} {t : Nat} {F : Nat → Option Nat} {fnd : Nat → Nat} {many k : Nat} (h : BF O t F fnd many k 0) (hk : many ≤ k) (hi : ∀ i, i < many → fD F (fnd i) ≤ i) {c n : Nat} (hc : c < 64) (hn : dS O t c = some n) : n < 64 := by
  rw [← BF_end h hk c hc] at hn
  exact wk_path h hn hi
theorem opnB_congr {M M' : MS} (h : ∀ k, scr k = false → k < 40 → M' k = M k) (j : Nat) : opnB M' j = opnB M j := by
  unfold opnB rbA nR
  rw [h 2 rfl (by decide), h 3 rfl (by decide), h 17 rfl (by decide), h 18 rfl (by decide), h 20 rfl (by decide)]
theorem cnt_congr {M M' : MS} (hc : CNT M) (h : ∀ k, scr k = false → k < 40 → M' k = M k) : CNT M' := hc.congr (fun k hk => h k (by
  simp only [cntRow, Bool.or_eq_true, beq_iff_eq] at hk
  rcases hk with (((rfl | rfl) | rfl) | rfl) | rfl <;> rfl) (by
  simp only [cntRow, Bool.or_eq_true, beq_iff_eq] at hk
  rcases hk with (((rfl | rfl) | rfl) | rfl) | rfl <;> decide))
theorem sc_set {M M0 : MS} {k i : Nat} {x : Int32} (hk : scr k = true) (h : ∀ k, scr k = false → k < 40 → M0 k = M k) : ∀ k', scr k' = false → k' < 40 → mset M0 k i x k' = M k' := by
  intro k' a b
  rw [mset_n M0 i x (fun q => by rw [q, hk] at a; cases a)]
  exact h k' a b
section LNZ
variable {p : Program} {l : Launch} {e : Env} {R : Room} {s : State} {m : MethodId} {args : Array Value} {below : List Frame} {meth : Method} {c : Code} {H : Heap} {locs : List Loc} {cells slots : Nat} {Q : State → Prop}
variable {cc : ByteArray} {pc : Nat} {ls : Array Slot} {rest : List Value}
theorem lnz_eq (hx : p.tables.exec = Jvm.exec) (hb : c.code = cc) {off : Int} {tgt a : Nat} (hdg : decode cc pc = .ok (.ifCond .eq off, 3)) (ht : (pc : Int) + off = (tgt : Int)) (ha : a < 2147483648)
    (kt : a = 0 → W p l e R s m args below meth c H locs cells slots Q (F0 m tgt ls rest)) (kf : ¬ a = 0 → W p l e R s m args below meth c H locs cells slots Q (F0 m (pc + 3) ls rest)) : W p l e R s m args below meth c H locs cells slots Q (F0 m pc ls (.int (nI a) :: rest)) :=
  lv_if_eq hx hb hdg ht (fun h => kt ((nI_eq ha (by decide)).mp h)) (fun h => kf (fun q => h (by rw [q]; rfl)))
theorem lnz_ne (hx : p.tables.exec = Jvm.exec) (hb : c.code = cc) {off : Int} {tgt a : Nat} (hdg : decode cc pc = .ok (.ifCond .ne off, 3)) (ht : (pc : Int) + off = (tgt : Int)) (ha : a < 2147483648)
    (kt : ¬ a = 0 → W p l e R s m args below meth c H locs cells slots Q (F0 m tgt ls rest)) (kf : a = 0 → W p l e R s m args below meth c H locs cells slots Q (F0 m (pc + 3) ls rest)) : W p l e R s m args below meth c H locs cells slots Q (F0 m pc ls (.int (nI a) :: rest)) :=
  lv_if_ne hx hb hdg ht (fun h => kt (fun q => h (by rw [q]; rfl))) (fun h => kf ((nI_eq ha (by decide)).mp h))
end LNZ
/-- the search comes to an end, so every distance is below 64 -/
theorem BF_run {O : Nat → Bool} {t : Nat} : ∀ (n : Nat) (F : Nat → Option Nat) (fnd : Nat → Nat) (many k w : Nat), (64 - k) * 5 + (4 - w) < n → (w = 0 ∨ k < many) → w ≤ 4 → BF O t F fnd many k w → (∀ i, i < many → fD F (fnd i) ≤ i) →
    ∃ (F' : Nat → Option Nat) (fnd' : Nat → Nat) (many' k' : Nat), BF O t F' fnd' many' k' 0 ∧ many' ≤ k' ∧ ∀ i, i < many' → fD F' (fnd' i) ≤ i := by
  intro n
  induction n with
  | zero => intro F fnd many k w h; omega
  | succ n ih =>
    intro F fnd many k w hn hw hw4 hB hN
    by_cases hk : k < many
    · have hm := BF_many hB
      by_cases h4 : w = 4
      · subst h4
        exact ih F fnd many (k + 1) 0 (by omega) (Or.inl rfl) (by omega) (BF_next hB hk) hN
      · cases hnb : nbr (fnd k) w with
        | none => exact ih F fnd many k (w + 1) (by omega) (Or.inr hk) (by omega) (BF_skip hB hk (fun c' h _ => by rw [hnb] at h; cases h)) hN
        | some c =>
          cases hF : F c with
          | some m => exact ih F fnd many k (w + 1) (by omega) (Or.inr hk) (by omega) (BF_skip hB hk (fun c' h _ => by rw [hnb] at h; cases h; rw [hF]; exact fun q => by cases q)) hN
          | none =>
            cases hO : O c with
            | false => exact ih F fnd many k (w + 1) (by omega) (Or.inr hk) (by omega) (BF_skip hB hk (fun c' h h2 => by rw [hnb] at h; cases h; rw [hO] at h2; cases h2)) hN
            | true => exact ih _ _ (many + 1) k (w + 1) (by omega) (Or.inr (by omega)) (by omega) (BF_push hB hk (by omega) hnb hF hO) (BN_push hB hk hF hN)
    · rcases hw with h0 | h0
      · subst h0
        exact ⟨F, fnd, many, k, hB, by omega, hN⟩
      · exact absurd h0 hk
theorem dS_64 {O : Nat → Bool} {t c n : Nat} (ht : t < 64) (hc : c < 64) (h : dS O t c = some n) : n < 64 := by
  cases hO : O t with
  | true =>
    obtain ⟨F, fnd, many, k, a, b, d⟩ := BF_run (O := O) (t := t) _ _ (fun _ => t) 1 0 0 (Nat.lt_succ_self _) (Or.inl rfl) (by decide) (BF_1 ht hO rfl) (fun i hi => by unfold fD; simp)
    exact dS_lt a b d hc h
  | false =>
    obtain ⟨F, fnd, many, k, a, b, d⟩ := BF_run (O := O) (t := t) _ _ (fun _ => t) 0 0 0 (Nat.lt_succ_self _) (Or.inl rfl) (by decide) (BF_0 hO _) (fun i hi => by omega)
    exact dS_lt a b d hc h
