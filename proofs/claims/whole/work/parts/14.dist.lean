/-! DISTANCES: walks over open cells, and the search that finds them -/
theorem nbr_lt : ∀ j, j < 64 → ∀ w, w < 4 → ∀ c, nbr j w = some c → c < 64 := by
  intro j hj w hw c h
  match w, hw with
  | 0, _ => simp only [nbr] at h; split at h <;> simp at h; omega
  | 1, _ => simp only [nbr] at h; split at h <;> simp at h; omega
  | 2, _ => simp only [nbr] at h; split at h <;> simp at h; omega
  | 3, _ => simp only [nbr] at h; split at h <;> simp at h; omega
theorem nbr_sym {j w c : Nat} (hj : j < 64) (hw : w < 4) (h : nbr j w = some c) : ∃ w', w' < 4 ∧ nbr c w' = some j := by
  match w, hw with
  | 0, _ =>
    simp only [nbr] at h; split at h <;> simp at h
    exact ⟨3, by decide, by simp only [nbr]; rw [if_pos (by omega)]; simp; omega⟩
  | 1, _ =>
    simp only [nbr] at h; split at h <;> simp at h
    exact ⟨2, by decide, by simp only [nbr]; rw [if_neg (by omega)]; simp; omega⟩
  | 2, _ =>
    simp only [nbr] at h; split at h <;> simp at h
    exact ⟨1, by decide, by simp only [nbr]; rw [if_neg (by omega)]; simp; omega⟩
  | 3, _ =>
    simp only [nbr] at h; split at h <;> simp at h
    exact ⟨0, by decide, by simp only [nbr]; rw [if_pos (by omega)]; simp; omega⟩
def wk (O : Nat → Bool) (t : Nat) : Nat → Nat → Prop
  | 0, c => c = t ∧ O t = true
  | k + 1, c => O c = true ∧ ∃ w, w < 4 ∧ ∃ c', nbr c w = some c' ∧ wk O t k c'
theorem wk_O {O : Nat → Bool} {t : Nat} : ∀ {k c : Nat}, wk O t k c → O c = true
  | 0, _, h => by rw [h.1]; exact h.2
  | _ + 1, _, h => h.1
noncomputable def dS (O : Nat → Bool) (t c : Nat) : Option Nat := @dite _ (∃ k, wk O t k c) (Classical.propDecidable _) (fun h => some (Classical.choose (pk_least _ h))) (fun _ => none)
theorem dS_some {O : Nat → Bool} {t c n : Nat} : dS O t c = some n ↔ wk O t n c ∧ ∀ m, m < n → ¬ wk O t m c := by
  unfold dS
  by_cases h : ∃ k, wk O t k c
  · rw [dif_pos h]
    have hs := Classical.choose_spec (pk_least _ h)
    constructor
    · intro e
      cases e
      exact hs
    · intro ⟨a, b⟩
      congr 1
      rcases Nat.lt_trichotomy (Classical.choose (pk_least _ h)) n with q | q | q
      · exact absurd hs.1 (b _ q)
      · exact q
      · exact absurd a (hs.2 _ q)
  · rw [dif_neg h]
    constructor
    · intro e; cases e
    · intro ⟨a, _⟩; exact absurd ⟨n, a⟩ h
theorem dS_none {O : Nat → Bool} {t c : Nat} : dS O t c = none ↔ ∀ k, ¬ wk O t k c := by
  unfold dS
  by_cases h : ∃ k, wk O t k c
  · rw [dif_pos h]
    obtain ⟨k, hk⟩ := h
    exact ⟨(fun e => by cases e), fun q => absurd hk (q k)⟩
  · rw [dif_neg h]
    exact ⟨fun _ k hk => h ⟨k, hk⟩, fun _ => rfl⟩
/-- distances that are sound, and closed under steps, are the distances -/
theorem dS_of {O : Nat → Bool} {t : Nat} {F : Nat → Option Nat} (h1 : ∀ c, c < 64 → ∀ n, F c = some n → wk O t n c) (h0 : O t = true → F t = some 0)
    (hc : ∀ c, c < 64 → ∀ n, F c = some n → ∀ w, w < 4 → ∀ c', nbr c w = some c' → O c' = true → ∃ n', F c' = some n' ∧ n' ≤ n + 1) : ∀ c, c < 64 → F c = dS O t c := by
  have key : ∀ k c, c < 64 → wk O t k c → ∃ n, F c = some n ∧ n ≤ k := by
    intro k
    induction k with
    | zero =>
      intro c _ h
      exact ⟨0, by rw [h.1]; exact h0 h.2, Nat.le_refl _⟩
    | succ k ih =>
      intro c hc64 h
      obtain ⟨hO, w, hw, c', hn, hk⟩ := h
      have hc' := nbr_lt c hc64 w hw c' hn
      obtain ⟨n, hn1, hn2⟩ := ih c' hc' hk
      obtain ⟨w', hw', hs⟩ := nbr_sym hc64 hw hn
      obtain ⟨n', a, b⟩ := hc c' hc' n hn1 w' hw' c hs hO
      exact ⟨n', a, by omega⟩
  intro c hc64
  cases hF : F c with
  | none =>
    symm
    rw [dS_none]
    intro k hk
    obtain ⟨n, a, _⟩ := key k c hc64 hk
    rw [hF] at a
    cases a
  | some n =>
    symm
    rw [dS_some]
    refine ⟨h1 c hc64 n hF, fun m hm hk => ?_⟩
    obtain ⟨n', a, b⟩ := key m c hc64 hk
    rw [hF] at a
    cases a
    omega
def fD (F : Nat → Option Nat) (c : Nat) : Nat := (F c).getD 0
/-- the search, w ways of the k-th found cell done -/
def BF (O : Nat → Bool) (t : Nat) (F : Nat → Option Nat) (fnd : Nat → Nat) (many k w : Nat) : Prop :=
  (∀ i, i < many → fnd i < 64) ∧ (∀ i j, i < j → j < many → fnd i ≠ fnd j) ∧ (∀ i, i < many → ∃ n, F (fnd i) = some n ∧ wk O t n (fnd i)) ∧ (∀ c, F c ≠ none → ∃ i, i < many ∧ fnd i = c) ∧
  (∀ i j, i ≤ j → j < many → fD F (fnd i) ≤ fD F (fnd j)) ∧ (k < many → ∀ j, j < many → fD F (fnd j) ≤ fD F (fnd k) + 1) ∧
  (∀ i w', (i < k ∧ w' < 4) ∨ (i = k ∧ w' < w) → i < many → ∀ c', nbr (fnd i) w' = some c' → O c' = true → ∃ n', F c' = some n' ∧ n' ≤ fD F (fnd i) + 1) ∧ (O t = true → F t = some 0)
theorem BF_skip {O : Nat → Bool} {t : Nat} {F : Nat → Option Nat} {fnd : Nat → Nat} {many k w : Nat} (h : BF O t F fnd many k w) (hk : k < many) (hs : ∀ c', nbr (fnd k) w = some c' → O c' = true → F c' ≠ none) : BF O t F fnd many k (w + 1) := by
  obtain ⟨h1, h2, h3, h4, h5, h6, h7, h8⟩ := h
  refine ⟨h1, h2, h3, h4, h5, h6, fun i w' hi hm c' hn hO => ?_, h8⟩
  by_cases e : i = k ∧ w' = w
  · obtain ⟨rfl, rfl⟩ := e
    obtain ⟨j, hj, hfj⟩ := h4 c' (hs c' hn hO)
    obtain ⟨n, hn1, -⟩ := h3 j hj
    rw [hfj] at hn1
    refine ⟨n, hn1, ?_⟩
    have := h6 hk j hj
    unfold fD at this ⊢
    rw [hfj, hn1] at this
    exact this
  · exact h7 i w' (by omega) hm c' hn hO
theorem BF_push {O : Nat → Bool} {t : Nat} {F : Nat → Option Nat} {fnd : Nat → Nat} {many k w c : Nat} (h : BF O t F fnd many k w) (hk : k < many) (hw : w < 4) (hn : nbr (fnd k) w = some c) (hF : F c = none) (hO : O c = true) :
    BF O t (fun q => if q = c then some (fD F (fnd k) + 1) else F q) (fun i => if i = many then c else fnd i) (many + 1) k (w + 1) := by
  obtain ⟨h1, h2, h3, h4, h5, h6, h7, h8⟩ := h
  have hc64 : c < 64 := nbr_lt _ (h1 k hk) w hw c hn
  have hne : ∀ i, i < many → fnd i ≠ c := by
    intro i hi e
    obtain ⟨n, hn1, -⟩ := h3 i hi
    rw [e, hF] at hn1
    cases hn1
  have hold : ∀ i, i < many → fD (fun q => if q = c then some (fD F (fnd k) + 1) else F q) (fnd i) = fD F (fnd i) := by
    intro i hi
    unfold fD
    dsimp only
    rw [if_neg (hne i hi)]
  have hnew : fD (fun q => if q = c then some (fD F (fnd k) + 1) else F q) c = fD F (fnd k) + 1 := by
    show Option.getD (if c = c then _ else _) 0 = _
    rw [if_pos rfl]
    rfl
  refine ⟨?_, ?_, ?_, ?_, ?_, ?_, ?_, ?_⟩
  · intro i hi
    dsimp only
    split
    · exact hc64
    · exact h1 i (by omega)
  · intro i j hij hj
    dsimp only
    rw [if_neg (by omega : ¬ i = many)]
    split
    · exact hne i (by omega)
    · exact h2 i j hij (by omega)
  · intro i hi
    dsimp only
    split
    · refine ⟨fD F (fnd k) + 1, if_pos rfl, hO, ?_⟩
      obtain ⟨w', hw', hs⟩ := nbr_sym (h1 k hk) hw hn
      obtain ⟨n, hn1, hn2⟩ := h3 k hk
      refine ⟨w', hw', fnd k, hs, ?_⟩
      unfold fD
      rw [hn1]
      exact hn2
    · obtain ⟨n, a, b⟩ := h3 i (by omega)
      exact ⟨n, by rw [if_neg (hne i (by omega))]; exact a, b⟩
  · intro q hq
    by_cases e : q = c
    · exact ⟨many, by omega, by dsimp only; rw [if_pos rfl, e]⟩
    · dsimp only at hq
      rw [if_neg e] at hq
      obtain ⟨i, hi, e2⟩ := h4 q hq
      exact ⟨i, by omega, by dsimp only; rw [if_neg (by omega)]; exact e2⟩
  · intro i j hij hj
    dsimp only
    by_cases ej : j = many
    · rw [if_pos ej]
      by_cases ei : i = many
      · rw [if_pos ei]; exact Nat.le_refl _
      · rw [if_neg ei, hnew, hold i (by omega)]
        exact h6 hk i (by omega)
    · rw [if_neg ej, if_neg (by omega), hold i (by omega), hold j (by omega)]
      exact h5 i j hij (by omega)
  · intro _ j hj
    dsimp only
    rw [if_neg (by omega : ¬ k = many), hold k hk]
    by_cases ej : j = many
    · rw [if_pos ej, hnew]; exact Nat.le_refl _
    · rw [if_neg ej, hold j (by omega)]; exact h6 hk j (by omega)
  · intro i w' hi hm c' hn' hO'
    dsimp only at hn' ⊢
    have him : i ≠ many := by omega
    rw [if_neg him] at hn' ⊢
    rw [hold i (by omega)]
    by_cases e : i = k ∧ w' = w
    · obtain ⟨rfl, rfl⟩ := e
      rw [hn] at hn'
      cases hn'
      exact ⟨_, if_pos rfl, Nat.le_refl _⟩
    · obtain ⟨n', a, b⟩ := h7 i w' (by omega) (by omega) c' hn' hO'
      refine ⟨n', ?_, b⟩
      rw [if_neg (fun q => by rw [q, hF] at a; cases a)]
      exact a
  · intro hOt
    have h9 := h8 hOt
    show (if t = c then _ else F t) = _
    rw [if_neg (fun q => by rw [q, hF] at h9; cases h9)]
    exact h9
theorem BF_next {O : Nat → Bool} {t : Nat} {F : Nat → Option Nat} {fnd : Nat → Nat} {many k : Nat} (h : BF O t F fnd many k 4) (hk : k < many) : BF O t F fnd many (k + 1) 0 := by
  obtain ⟨h1, h2, h3, h4, h5, h6, h7, h8⟩ := h
  refine ⟨h1, h2, h3, h4, h5, fun hk1 j hj => ?_, fun i w' hi hm c' hn hO => ?_, h8⟩
  · have a := h6 hk j hj
    have b := h5 k (k + 1) (by omega) hk1
    omega
  · exact h7 i w' (by omega) hm c' hn hO
theorem BF_end {O : Nat → Bool} {t : Nat} {F : Nat → Option Nat} {fnd : Nat → Nat} {many k : Nat} (h : BF O t F fnd many k 0) (hk : many ≤ k) : ∀ c, c < 64 → F c = dS O t c := by
  obtain ⟨h1, h2, h3, h4, h5, h6, h7, h8⟩ := h
  refine dS_of (fun c hc n hn => ?_) h8 (fun c hc n hn w hw c' hn' hO => ?_)
  · obtain ⟨i, hi, e⟩ := h4 c (by rw [hn]; exact fun q => by cases q)
    obtain ⟨n', a, b⟩ := h3 i hi
    rw [e, hn] at a
    cases a
    rw [e] at b
    exact b
  · obtain ⟨i, hi, e⟩ := h4 c (by rw [hn]; exact fun q => by cases q)
    rw [← e] at hn'
    obtain ⟨n', a, b⟩ := h7 i w (by omega) hi c' hn' hO
    refine ⟨n', a, ?_⟩
    unfold fD at b
    rw [e, hn] at b
    exact b
theorem BF_0 {O : Nat → Bool} {t : Nat} (h : O t = false) (fnd : Nat → Nat) : BF O t (fun _ => none) fnd 0 0 0 :=
  ⟨fun i hi => by omega, fun i j a b => by omega, fun i hi => by omega, fun c hc => absurd rfl hc, fun i j a b => by omega, fun a => by omega, fun i w' a b => by omega, fun a => by rw [h] at a; cases a⟩
theorem BF_1 {O : Nat → Bool} {t : Nat} (ht : t < 64) (h : O t = true) {fnd : Nat → Nat} (hf : fnd 0 = t) : BF O t (fun q => if q = t then some 0 else none) fnd 1 0 0 := by
  have e0 : ∀ i, i < 1 → fnd i = t := fun i hi => by rw [show i = 0 by omega]; exact hf
  refine ⟨fun i hi => by rw [e0 i hi]; exact ht, fun i j a b => by omega, fun i hi => ⟨0, by dsimp only; rw [if_pos (e0 i hi)], by rw [e0 i hi]; exact ⟨rfl, h⟩⟩, fun c hc => ⟨0, by decide, ?_⟩, fun i j a b => by rw [e0 i (by omega), e0 j b]; exact Nat.le_refl _, fun a j hj => by rw [e0 j hj, hf]; omega, fun i w' a b => by omega, fun _ => if_pos rfl⟩
  by_cases q : c = t
  · rw [q]; exact hf
  · dsimp only at hc; rw [if_neg q] at hc; exact absurd rfl hc
theorem BF_many {O : Nat → Bool} {t : Nat} {F : Nat → Option Nat} {fnd : Nat → Nat} {many k w : Nat} (h : BF O t F fnd many k w) : many ≤ 64 := fb_holes 64 many fnd h.1 h.2.1
theorem BF_lt {O : Nat → Bool} {t : Nat} {F : Nat → Option Nat} {fnd : Nat → Nat} {many k w c : Nat} (h : BF O t F fnd many k w) (hc : c < 64) (hF : F c = none) : many < 64 := by
  have h1 : many + 1 ≤ 64 := by
    refine fb_holes 64 (many + 1) (fun i => if i = many then c else fnd i) (fun i hi => ?_) (fun i j hij hj => ?_)
    · split
      · exact hc
      · exact h.1 i (by omega)
    · rw [if_neg (by omega : ¬ i = many)]
      split
      · intro e
        obtain ⟨n, a, -⟩ := h.2.2.1 i (by omega)
        rw [e, hF] at a
        cases a
      · exact h.2.1 i j hij (by omega)
  omega
theorem BF_fD {O : Nat → Bool} {t : Nat} {F : Nat → Option Nat} {fnd : Nat → Nat} {many k w : Nat} (h : BF O t F fnd many k w) (hm : ∀ c n, F c = some n → n ≤ many) {c n : Nat} (hn : F c = some n) : n ≤ 64 := Nat.le_trans (hm c n hn) (BF_many h)
