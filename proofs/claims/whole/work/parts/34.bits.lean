/-! SETS OF CELLS AS LONGS (wb_ rows: kit/laws/BITS) -/
theorem wb_tb (n : Nat) : (lN n).toBitVec = BitVec.ofNat 64 n := rfl
theorem wb_inj {a b : Int64} (h : a.toBitVec = b.toBitVec) : a = b := Int64.toBitVec_inj.mp h
theorem wb_tn {n : Nat} (h : n < 2 ^ 64) : (lN n).toBitVec.toNat = n := by rw [wb_tb, BitVec.toNat_ofNat, Nat.mod_eq_of_lt h]
theorem wb_of (x : Int64) : ∃ n, n < 2 ^ 64 ∧ x = lN n := ⟨x.toBitVec.toNat, x.toBitVec.isLt, wb_inj (by rw [wb_tb]; simp)⟩
theorem wb_of32 (x : Int32) : ∃ n, n < 2 ^ 32 ∧ x = nI n := ⟨x.toBitVec.toNat, x.toBitVec.isLt, Int32.toBitVec_inj.mp (by show _ = BitVec.ofNat 32 _; simp)⟩
theorem wb_c : ∀ k, k < 64 → ((nI k).toInt64 &&& 63) = lN k := by decide +kernel
theorem wb_cu : ∀ k, k < 64 → ((nI k).toInt64.toUInt64 &&& Int64.toUInt64 63) = UInt64.ofNat k := by decide +kernel
theorem wb_sm : ∀ k, k < 64 → (BitVec.ofNat 64 k).smod 64 = BitVec.ofNat 64 k := by decide +kernel
theorem wb_pw {a b : Nat} (h : a ≤ b) : 2 ^ b = 2 ^ a * 2 ^ (b - a) := by rw [← Nat.pow_add]; congr 1; omega
theorem wb_lt2 {a b : Nat} (h : a < b) : 2 ^ a < 2 ^ b := Nat.pow_lt_pow_right (by decide) h
theorem wb_mod (n : Nat) : lN n = lN (n % 2 ^ 64) := wb_inj (by rw [wb_tb, wb_tb]; apply BitVec.eq_of_toNat_eq; rw [BitVec.toNat_ofNat, BitVec.toNat_ofNat, Nat.mod_mod])
theorem wb_shr {n k : Nat} (hn : n < 2 ^ 64) (hk : k < 64) : ((lN n).toUInt64 >>> ((nI k).toInt64.toUInt64 &&& Int64.toUInt64 63)).toInt64 = lN (n / 2 ^ k) := by
  rw [wb_cu k hk]
  apply wb_inj
  apply BitVec.eq_of_toNat_eq
  show ((lN n).toUInt64 >>> UInt64.ofNat k).toNat = (BitVec.ofNat 64 _).toNat
  have h1 : (UInt64.ofNat k).toNat = k := by
    show (BitVec.ofNat 64 k).toNat = k
    rw [BitVec.toNat_ofNat, Nat.mod_eq_of_lt (by omega)]
  have h2 : (lN n).toUInt64.toNat = n := wb_tn hn
  rw [UInt64.toNat_shiftRight, h1, h2, Nat.mod_eq_of_lt hk, Nat.shiftRight_eq_div_pow, BitVec.toNat_ofNat, Nat.mod_eq_of_lt (Nat.lt_of_le_of_lt (Nat.div_le_self _ _) hn)]
theorem wb_shl (n : Nat) {k : Nat} (hk : k < 64) : lN n <<< ((nI k).toInt64 &&& 63) = lN (n * 2 ^ k) := by
  rw [wb_c k hk]
  apply wb_inj
  rw [Int64.toBitVec_shiftLeft, wb_tb, wb_tb, wb_tb, wb_sm k hk]
  apply BitVec.eq_of_toNat_eq
  rw [BitVec.shiftLeft_eq', BitVec.toNat_shiftLeft, BitVec.toNat_ofNat, BitVec.toNat_ofNat, BitVec.toNat_ofNat, Nat.mod_eq_of_lt (show k < 2 ^ 64 by omega), Nat.shiftLeft_eq, Nat.mul_mod, Nat.mod_mod, ← Nat.mul_mod]
theorem bsN_lt (p : Nat → Bool) : ∀ n, bsN p n < 2 ^ n
  | 0 => by show 0 < 1; decide
  | n + 1 => by
    have h := bsN_lt p n
    have h2 : 2 ^ (n + 1) = 2 ^ n + 2 ^ n := by rw [Nat.pow_succ]; omega
    unfold bsN
    split <;> omega
theorem bsN_bit (p : Nat → Bool) (i : Nat) : ∀ n, (bsN p n).testBit i = (decide (i < n) && p i)
  | 0 => by simp [bsN]
  | n + 1 => by
    have h := bsN_bit p i n
    have hl := bsN_lt p n
    unfold bsN
    by_cases hp : p n = true
    · rw [if_pos hp]
      rcases Nat.lt_trichotomy i n with q | q | q
      · rw [Nat.testBit_two_pow_add_gt q, h]
        have e1 : decide (i < n) = true := decide_eq_true q
        have e2 : decide (i < n + 1) = true := decide_eq_true (by omega)
        rw [e1, e2]
      · subst q
        rw [Nat.testBit_two_pow_add_eq, h, hp]
        have e1 : decide (i < i) = false := decide_eq_false (by omega)
        have e2 : decide (i < i + 1) = true := decide_eq_true (by omega)
        rw [e1, e2]
        rfl
      · have e2 : decide (i < n + 1) = false := decide_eq_false (by omega)
        rw [e2, Bool.false_and]
        refine Nat.testBit_lt_two_pow (Nat.lt_of_lt_of_le (m := 2 ^ (n + 1)) ?_ (Nat.pow_le_pow_right (by decide) q))
        rw [Nat.pow_succ]; omega
    · rw [if_neg hp, Nat.zero_add, h]
      by_cases q : i = n
      · subst q
        have e2 : p i = false := by simpa using hp
        rw [e2, Bool.and_false, Bool.and_false]
      · by_cases q2 : i < n
        · have e1 : decide (i < n) = true := decide_eq_true q2
          have e2 : decide (i < n + 1) = true := decide_eq_true (by omega)
          rw [e1, e2]
        · have e1 : decide (i < n) = false := decide_eq_false q2
          have e2 : decide (i < n + 1) = false := decide_eq_false (by omega)
          rw [e1, e2]
def bb (x : Int64) (i : Nat) : Bool := x.toBitVec.getLsbD i
theorem bb_bs (p : Nat → Bool) (i : Nat) : bb (bs p) i = (decide (i < 64) && p i) := by
  unfold bb bs
  rw [wb_tb, BitVec.getLsbD_ofNat, bsN_bit]
  cases decide (i < 64) <;> simp
theorem bb_in {p : Nat → Bool} {i : Nat} (h : i < 64) : bb (bs p) i = p i := by rw [bb_bs, decide_eq_true h, Bool.true_and]
theorem bb_ext {x y : Int64} (h : ∀ i, i < 64 → bb x i = bb y i) : x = y := wb_inj (BitVec.eq_of_getLsbD_eq (fun i hi => h i hi))
theorem bs_of {x : Int64} {p : Nat → Bool} (h : ∀ i, i < 64 → bb x i = p i) : x = bs p := bb_ext (fun i hi => by rw [h i hi, bb_in hi])
theorem bs_cg {p q : Nat → Bool} (h : ∀ i, i < 64 → p i = q i) : bs p = bs q := bs_of (fun i hi => by rw [bb_in hi, h i hi])
theorem bs_eq {p q : Nat → Bool} : bs p = bs q ↔ ∀ i, i < 64 → p i = q i := ⟨fun e i hi => by rw [← bb_in (p := p) hi, e, bb_in hi], bs_cg⟩
theorem bs_0 : (0 : Int64) = bs (fun _ => false) := bs_of (fun i _ => by unfold bb; exact BitVec.getLsbD_zero)
theorem bs_or (p q : Nat → Bool) : bs p ||| bs q = bs (fun i => p i || q i) := bs_of (fun i hi => by
  have : bb (bs p ||| bs q) i = (bb (bs p) i || bb (bs q) i) := by unfold bb; rw [Int64.toBitVec_or, BitVec.getLsbD_or]
  rw [this, bb_in hi, bb_in hi])
theorem bs_and (p q : Nat → Bool) : bs p &&& bs q = bs (fun i => p i && q i) := bs_of (fun i hi => by
  have : bb (bs p &&& bs q) i = (bb (bs p) i && bb (bs q) i) := by unfold bb; rw [Int64.toBitVec_and, BitVec.getLsbD_and]
  rw [this, bb_in hi, bb_in hi])
theorem bs_m1 : (-1 : Int64) = bs (fun _ => true) := bs_of (by decide +kernel)
theorem bs_not (p : Nat → Bool) : bs p ^^^ (-1) = bs (fun i => !p i) := bs_of (fun i hi => by
  have : bb (bs p ^^^ (-1)) i = (bb (bs p) i ^^ bb (-1) i) := by unfold bb; rw [Int64.toBitVec_xor, BitVec.getLsbD_xor]
  rw [this, bb_in hi, bs_m1, bb_in hi]
  cases p i <;> rfl)
theorem bb_lN {n i : Nat} : bb (lN n) i = (decide (i < 64) && n.testBit i) := by unfold bb; rw [wb_tb, BitVec.getLsbD_ofNat]
theorem bs_nat (p : Nat → Bool) : bs p = lN (bsN p 64) := rfl
theorem bsN64 (p : Nat → Bool) : bsN p 64 < 2 ^ 64 := bsN_lt p 64
theorem bs_shl (p : Nat → Bool) {k : Nat} (hk : k < 64) : bs p <<< ((nI k).toInt64 &&& 63) = bs (fun i => decide (k ≤ i) && p (i - k)) := bs_of (fun i hi => by
  rw [bs_nat, wb_shl _ hk, bb_lN, Nat.testBit_mul_two_pow, bsN_bit, decide_eq_true hi, Bool.true_and]
  by_cases h : k ≤ i
  · rw [decide_eq_true (show i - k < 64 by omega), Bool.true_and]
  · first | (simp [h]; done) | rfl)
theorem bs_ushr (p : Nat → Bool) {k : Nat} (hk : k < 64) : ((bs p).toUInt64 >>> ((nI k).toInt64.toUInt64 &&& Int64.toUInt64 63)).toInt64 = bs (fun i => decide (i + k < 64) && p (i + k)) := bs_of (fun i hi => by
  rw [bs_nat, wb_shr (bsN64 p) hk, bb_lN, Nat.testBit_div_two_pow, bsN_bit, decide_eq_true hi, Bool.true_and])
theorem bs_1 {k : Nat} (hk : k < 64) : (1 : Int64) <<< ((nI k).toInt64 &&& 63) = bs (fun i => decide (i = k)) := bs_of (fun i hi => by
  rw [show (1 : Int64) = lN 1 from rfl, wb_shl _ hk, bb_lN, decide_eq_true hi, Bool.true_and, Nat.one_mul, Nat.testBit_two_pow]
  by_cases h : i = k
  · subst h; simp
  · rw [decide_eq_false (fun e => h e.symm), decide_eq_false h])
/-- the set of one cell, of none if the number is none -/
def one_ (x : Int32) (i : Nat) : Bool := decide (nI i = x)
theorem bs_one {k : Nat} (hk : k < 64) : bs (one_ (nI k)) = bs (fun i => decide (i = k)) := bs_cg (fun i hi => by
  unfold one_
  by_cases h : i = k
  · rw [decide_eq_true h, h, decide_eq_true rfl]
  · rw [decide_eq_false h, decide_eq_false (fun q => h ((nI_eq (by omega) (by omega)).mp q))])
theorem bs_none {x : Int32} (h : ∀ i, i < 64 → nI i ≠ x) : bs (one_ x) = 0 := by
  rw [bs_0]
  exact bs_cg (fun i hi => by unfold one_; exact decide_eq_false (h i hi))
theorem bs_nz {p : Nat → Bool} : bs p = 0 ↔ ∀ i, i < 64 → p i = false := by rw [bs_0, bs_eq]
theorem bs_at {p : Nat → Bool} {k : Nat} (hk : k < 64) : bs (fun i => p i && one_ (nI k) i) = 0 ↔ p k = false := by
  rw [bs_nz]
  constructor
  · intro h
    have := h k hk
    unfold one_ at this
    rw [decide_eq_true rfl, Bool.and_true] at this
    exact this
  · intro h i hi
    unfold one_
    by_cases e : i = k
    · rw [e, h, Bool.false_and]
    · rw [decide_eq_false (fun q => e ((nI_eq (by omega) (by omega)).mp q)), Bool.and_false]
theorem lcmp_e (x y : Int64) : lg_cmp x y = 0 ↔ x = y := by
  unfold lg_cmp
  by_cases h : x > y
  · rw [if_pos h]
    constructor
    · intro q; exact absurd q (by decide)
    · intro q; subst q; exact absurd h (by simp [Int64.lt_iff_toInt_lt])
  · rw [if_neg h]
    by_cases e : x = y
    · rw [if_pos e]; simp [e]
    · rw [if_neg e]; simp [e]
/-! A SWEEP OF THE FLOOR -/
def nbh (R : Nat → Bool) (i : Nat) : Bool := anyB (fun w => match nbr i w with | none => false | some j => R j) 4
theorem nbh_t {R : Nat → Bool} {i : Nat} : nbh R i = true ↔ ∃ w j, w < 4 ∧ nbr i w = some j ∧ R j = true := by
  unfold nbh
  rw [anyB_t]
  constructor
  · rintro ⟨w, hw, h⟩
    cases e : nbr i w with
    | none => rw [e] at h; cases h
    | some j => rw [e] at h; exact ⟨w, j, hw, e, h⟩
  · rintro ⟨w, j, hw, e, h⟩
    exact ⟨w, hw, by rw [e]; exact h⟩
/-- the long of the neighbours -/
theorem bs_nbh (R : Nat → Bool) : ((bs R <<< ((nI 8).toInt64 &&& 63)) ||| ((bs R).toUInt64 >>> ((nI 8).toInt64.toUInt64 &&& Int64.toUInt64 63)).toInt64) ||| ((bs R &&& 9187201950435737471) <<< ((nI 1).toInt64 &&& 63)) ||| ((bs R &&& (-72340172838076674)).toUInt64 >>> ((nI 1).toInt64.toUInt64 &&& Int64.toUInt64 63)).toInt64 = bs (nbh R) := by
  have e1 : (9187201950435737471 : Int64) = bs (fun i => decide (¬ i % 8 = 7)) := bs_of (by decide +kernel)
  have e2 : (-72340172838076674 : Int64) = bs (fun i => decide (¬ i % 8 = 0)) := bs_of (by decide +kernel)
  rw [e1, e2, bs_and, bs_and, bs_shl _ (by decide), bs_shl _ (by decide), bs_ushr _ (by decide), bs_ushr _ (by decide), bs_or, bs_or, bs_or]
  refine bs_cg (fun i hi => ?_)
  rw [Bool.eq_iff_iff, nbh_t]
  simp only [Bool.or_eq_true, Bool.and_eq_true, decide_eq_true_eq]
  constructor
  · rintro (((⟨h1, h2⟩ | ⟨h1, h2⟩) | ⟨h1, h2, h3⟩) | ⟨h1, h2, h3⟩)
    · exact ⟨0, i - 8, by decide, by simp only [nbr]; rw [if_pos h1], h2⟩
    · exact ⟨3, i + 8, by decide, by simp only [nbr]; rw [if_pos (by omega)], h2⟩
    · exact ⟨1, i - 1, by decide, by simp only [nbr]; rw [if_neg (by omega)], h2⟩
    · exact ⟨2, i + 1, by decide, by simp only [nbr]; rw [if_neg (by omega)], h2⟩
  · rintro ⟨w, j, hw, hn, hR⟩
    match w, hw with
    | 0, _ =>
      simp only [nbr] at hn; split at hn <;> simp at hn
      subst hn
      exact Or.inl (Or.inl (Or.inl ⟨by omega, hR⟩))
    | 1, _ =>
      simp only [nbr] at hn; split at hn <;> simp at hn
      subst hn
      exact Or.inl (Or.inr ⟨by omega, hR, by omega⟩)
    | 2, _ =>
      simp only [nbr] at hn; split at hn <;> simp at hn
      subst hn
      exact Or.inr ⟨by omega, hR, by omega⟩
    | 3, _ =>
      simp only [nbr] at hn; split at hn <;> simp at hn
      subst hn
      exact Or.inl (Or.inl (Or.inr ⟨by omega, hR⟩))
/-- ways from f, each cell of which but the first is open -/
def pth (O : Nat → Bool) (f : Nat) : Nat → Nat → Prop
  | 0, i => i = f
  | k + 1, i => i < 64 ∧ O i = true ∧ ∃ w j, w < 4 ∧ nbr i w = some j ∧ pth O f k j
/-- what is reached in n steps -/
def swp (O : Nat → Bool) (f : Nat) : Nat → Nat → Bool
  | 0, i => decide (i = f)
  | n + 1, i => swp O f n i || (nbh (swp O f n) i && O i)
theorem swp_s (O : Nat → Bool) (f n : Nat) : (fun i => swp O f n i || (nbh (swp O f n) i && O i)) = swp O f (n + 1) := rfl
theorem swp_t {O : Nat → Bool} {f : Nat} : ∀ {n i : Nat}, i < 64 → (swp O f n i = true ↔ ∃ k, k ≤ n ∧ pth O f k i)
  | 0, i, hi => by
    simp only [swp, decide_eq_true_eq]
    constructor
    · intro h; exact ⟨0, Nat.le_refl _, h⟩
    · rintro ⟨k, hk, h⟩
      have : k = 0 := by omega
      subst this
      exact h
  | n + 1, i, hi => by
    simp only [swp, Bool.or_eq_true, Bool.and_eq_true, nbh_t]
    constructor
    · rintro (h | ⟨⟨w, j, hw, hn, hj⟩, hO⟩)
      · obtain ⟨k, hk, hp⟩ := (swp_t hi).mp h
        exact ⟨k, by omega, hp⟩
      · obtain ⟨k, hk, hp⟩ := (swp_t (nbr_lt i hi w hw j hn)).mp hj
        exact ⟨k + 1, by omega, hi, hO, w, j, hw, hn, hp⟩
    · rintro ⟨k, hk, hp⟩
      by_cases e : k ≤ n
      · exact Or.inl ((swp_t hi).mpr ⟨k, e, hp⟩)
      · have : k = n + 1 := by omega
        subst this
        obtain ⟨-, hO, w, j, hw, hn, hq⟩ := hp
        exact Or.inr ⟨⟨w, j, hw, hn, (swp_t (nbr_lt i hi w hw j hn)).mpr ⟨n, Nat.le_refl _, hq⟩⟩, hO⟩
theorem pth_rev {O : Nat → Bool} {f t : Nat} (ht : t < 64) : ∀ (m j : Nat), (∃ i w c, i < 64 ∧ pth O f j i ∧ w < 4 ∧ nbr i w = some c ∧ wk O t m c) ↔ pth O f (j + m + 1) t
  | 0, j => by
    constructor
    · rintro ⟨i, w, c, hi, hp, hw, hn, hc, hO⟩
      subst hc
      obtain ⟨w', hw', hs⟩ := nbr_sym hi hw hn
      exact ⟨ht, hO, w', i, hw', hs, hp⟩
    · rintro ⟨-, hO, w, j', hw, hn, hp⟩
      obtain ⟨w', hw', hs⟩ := nbr_sym ht hw hn
      exact ⟨j', w', t, nbr_lt t ht w hw j' hn, hp, hw', hs, rfl, hO⟩
  | m + 1, j => by
    rw [show j + (m + 1) + 1 = (j + 1) + m + 1 by omega, ← pth_rev ht m (j + 1)]
    constructor
    · rintro ⟨i, w, c, hi, hp, hw, hn, hO, w2, hw2, c2, hn2, hk⟩
      have hc := nbr_lt i hi w hw c hn
      obtain ⟨w', hw', hs⟩ := nbr_sym hi hw hn
      exact ⟨c, w2, c2, hc, ⟨hc, hO, w', i, hw', hs, hp⟩, hw2, hn2, hk⟩
    · rintro ⟨i, w, c, hi, ⟨-, hO, w1, j1, hw1, hn1, hp⟩, hw, hn, hk⟩
      obtain ⟨w', hw', hs⟩ := nbr_sym hi hw1 hn1
      exact ⟨j1, w', i, nbr_lt i hi w1 hw1 j1 hn1, hp, hw', hs, hO, w, hw, c, hn, hk⟩
theorem bst_min {f : Nat → Option (Nat × Nat)} {p : Nat × Nat} : ∀ {n : Nat}, bst f n = some p → ∀ i q, i < n → f i = some q → p.2 ≤ q.2
  | 0, h, i, q, hi, hq => by omega
  | n + 1, h, i, q, hi, hq => by
    cases hf : f n with
    | none =>
      rw [bst_skip hf] at h
      by_cases e : i = n
      · rw [e, hf] at hq; cases hq
      · exact bst_min h i q (by omega) hq
    | some r =>
      cases hb : bst f n with
      | none =>
        rw [bst_new hf hb] at h; cases h
        by_cases e : i = n
        · rw [e, hf] at hq; cases hq; exact Nat.le_refl _
        · have : ∀ m, m ≤ n → bst f m = none → ∀ i, i < m → f i = none := by
            intro m
            induction m with
            | zero => intro _ _ i hi; omega
            | succ m ih =>
              intro hm hb i hi
              cases hfm : f m with
              | none =>
                rw [bst_skip hfm] at hb
                by_cases e : i = m
                · rw [e]; exact hfm
                · exact ih (by omega) hb i (by omega)
              | some z =>
                exfalso
                cases hbm : bst f m with
                | none => rw [bst_new hfm hbm] at hb; cases hb
                | some y =>
                  by_cases hl : z.2 < y.2
                  · rw [bst_lt hfm hbm hl] at hb; cases hb
                  · rw [bst_ge hfm hbm hl] at hb; cases hb
          rw [this n (Nat.le_refl _) hb i (by omega)] at hq; cases hq
      | some y =>
        by_cases hl : r.2 < y.2
        · rw [bst_lt hf hb hl] at h; cases h
          by_cases e : i = n
          · rw [e, hf] at hq; cases hq; exact Nat.le_refl _
          · have := bst_min hb i q (by omega) hq; omega
        · rw [bst_ge hf hb hl] at h; cases h
          by_cases e : i = n
          · rw [e, hf] at hq; cases hq; omega
          · exact bst_min hb i q (by omega) hq
theorem bst_no {f : Nat → Option (Nat × Nat)} : ∀ {n : Nat}, bst f n = none → ∀ i, i < n → f i = none
  | 0, _, i, hi => by omega
  | n + 1, h, i, hi => by
    cases hf : f n with
    | none =>
      rw [bst_skip hf] at h
      by_cases e : i = n
      · rw [e]; exact hf
      · exact bst_no h i (by omega)
    | some r =>
      exfalso
      cases hb : bst f n with
      | none => rw [bst_new hf hb] at h; cases h
      | some y =>
        by_cases hl : r.2 < y.2
        · rw [bst_lt hf hb hl] at h; cases h
        · rw [bst_ge hf hb hl] at h; cases h
/-- the distance of a cell to another one -/
noncomputable def dG (O : Nat → Bool) (f t : Nat) : Option Nat := if f = t then some 0 else (nrst (dS O t) f).map (fun p => p.2 + 1)
theorem dG_some {O : Nat → Bool} {f t n : Nat} (hf : f < 64) (ht : t < 64) (hne : f ≠ t) (h1 : pth O f n t) (h2 : ∀ m, m < n → ¬ pth O f m t) : dG O f t = some n := by
  unfold dG
  rw [if_neg hne]
  cases n with
  | zero => exact absurd h1.symm hne
  | succ n =>
    obtain ⟨i, w, c, hi, hp, hw, hn, hk⟩ := (pth_rev (O := O) (f := f) ht n 0).mpr (by rw [Nat.zero_add]; exact h1)
    have hif : i = f := hp
    subst hif
    have least : ∀ c' w' m, w' < 4 → nbr i w' = some c' → wk O t m c' → n ≤ m := fun c' w' m hw' hn' hk' => by
      rcases Nat.lt_or_ge m n with q | q
      · exact absurd ((pth_rev (O := O) (f := i) ht m 0).mp ⟨i, w', c', hi, rfl, hw', hn', hk'⟩) (h2 _ (by omega))
      · exact q
    have hd : dS O t c = some n := dS_some.mpr ⟨hk, fun m hm hkm => by have := least c w m hw hn hkm; omega⟩
    have hF : nbF (dS O t) i w = some (c, n) := nbF_s hn hd
    cases hb : nrst (dS O t) i with
    | none => rw [bst_no hb w hw] at hF; cases hF
    | some p =>
      have hle := bst_min hb w _ hw hF
      obtain ⟨w2, hw2, hF2⟩ := bst_in hb
      cases hn2 : nbr i w2 with
      | none => rw [nbF_n hn2] at hF2; cases hF2
      | some c2 =>
        cases hd2 : dS O t c2 with
        | none => rw [nbF_d hn2 hd2] at hF2; cases hF2
        | some m =>
          rw [nbF_s hn2 hd2] at hF2
          cases hF2
          have := least c2 w2 m hw2 hn2 (dS_some.mp hd2).1
          show some (m + 1) = some (n + 1)
          have hle : m ≤ n := hle
          rw [show m = n by omega]
theorem dG_none {O : Nat → Bool} {f t : Nat} (hf : f < 64) (ht : t < 64) (hne : f ≠ t) (h : ∀ m, ¬ pth O f m t) : dG O f t = none := by
  unfold dG
  rw [if_neg hne]
  cases hb : nrst (dS O t) f with
  | none => rfl
  | some p =>
    exfalso
    obtain ⟨w2, hw2, hF2⟩ := bst_in hb
    cases hn2 : nbr f w2 with
    | none => rw [nbF_n hn2] at hF2; cases hF2
    | some c2 =>
      cases hd2 : dS O t c2 with
      | none => rw [nbF_d hn2 hd2] at hF2; cases hF2
      | some m => exact h _ ((pth_rev (O := O) (f := f) ht m 0).mp ⟨f, w2, c2, hf, rfl, hw2, hn2, (dS_some.mp hd2).1⟩)
theorem sw_found {O : Nat → Bool} {f t n : Nat} (hf : f < 64) (ht : t < 64) (hne : f ≠ t) (h0 : swp O f n t = false) (h1 : swp O f (n + 1) t = true) : dG O f t = some (n + 1) := by
  obtain ⟨k, hk, hp⟩ := (swp_t ht).mp h1
  have hno : ∀ m, m ≤ n → ¬ pth O f m t := fun m hm q => by
    rw [(swp_t ht).mpr ⟨m, hm, q⟩] at h0; cases h0
  have : k = n + 1 := by
    rcases Nat.lt_or_ge n k with q | q
    · omega
    · exact absurd hp (hno k q)
  subst this
  exact dG_some hf ht hne hp (fun m hm => hno m (by omega))
theorem sw_goal {O : Nat → Bool} {f t : Nat} (hf : f < 64) (ht : t < 64) (hne : f ≠ t) (h : O t = false) : dG O f t = none :=
  dG_none hf ht hne (fun m q => by
    cases m with
    | zero => exact hne q.symm
    | succ m => rw [q.2.1] at h; cases h)
theorem sw_stay {O : Nat → Bool} {f n : Nat} (h : ∀ i, i < 64 → swp O f (n + 1) i = swp O f n i) : ∀ m i, i < 64 → pth O f m i → swp O f n i = true
  | 0, i, hi, q => (swp_t hi).mpr ⟨0, Nat.zero_le _, q⟩
  | m + 1, i, hi, ⟨_, hO, w, j, hw, hn, hp⟩ => by
    have := sw_stay h m j (nbr_lt i hi w hw j hn) hp
    rw [← h i hi]
    unfold swp
    rw [hO, Bool.and_true, nbh_t.mpr ⟨w, j, hw, hn, this⟩, Bool.or_true]
theorem sw_stuck {O : Nat → Bool} {f t n : Nat} (hf : f < 64) (ht : t < 64) (hne : f ≠ t) (h0 : swp O f n t = false) (h : ∀ i, i < 64 → swp O f (n + 1) i = swp O f n i) : dG O f t = none :=
  dG_none hf ht hne (fun m q => by rw [sw_stay h m t ht q] at h0; cases h0)
theorem sw_grow {O : Nat → Bool} {f n : Nat} (h : ¬ ∀ i, i < 64 → swp O f (n + 1) i = swp O f n i) : fb_ct (swp O f n) 64 < fb_ct (swp O f (n + 1)) 64 := by
  have hs : ∀ k, k < 64 → swp O f n k = true → swp O f (n + 1) k = true := fun k _ q => by unfold swp; rw [q, Bool.true_or]
  have hle := fb_ct_sub hs
  rcases Nat.lt_or_ge (fb_ct (swp O f n) 64) (fb_ct (swp O f (n + 1)) 64) with q | q
  · exact q
  · exfalso
    apply h
    intro i hi
    have hor := fb_ct_or (p := swp O f n) (q := fun k => swp O f (n + 1) k && !swp O f n k) (n := 64) (fun k _ z => by
      have z1 := z.1; have z2 := z.2
      rw [z1] at z2; simp at z2)
    have hcg : fb_ct (fun k => swp O f n k || (swp O f (n + 1) k && !swp O f n k)) 64 = fb_ct (swp O f (n + 1)) 64 := fb_ct_cong (fun k hk => by
      cases e : swp O f n k with
      | false => simp
      | true => rw [hs k hk e]; rfl)
    rw [hcg] at hor
    have hz : fb_ct (fun k => swp O f (n + 1) k && !swp O f n k) 64 = 0 := by omega
    have := fb_ct_zero.mp hz i hi
    cases e : swp O f n i with
    | true => exact hs i hi e
    | false => rw [e] at this; simpa using this
theorem sw_full {O : Nat → Bool} {f t n : Nat} (ht : t < 64) (h0 : swp O f n t = false) : fb_ct (swp O f n) 64 < 64 := by
  rcases Nat.lt_or_ge (fb_ct (swp O f n) 64) 64 with q | q
  · exact q
  · have := fb_ct_all.mp (Nat.le_antisymm (fb_ct_le (swp O f n) 64) q) t ht
    rw [this] at h0; cases h0
theorem sw_0 {O : Nat → Bool} {f : Nat} (hf : f < 64) : 1 ≤ fb_ct (swp O f 0) 64 := fb_ct_pos.mpr ⟨f, hf, by unfold swp; exact decide_eq_true rfl⟩
/-! distances from open cells -/
theorem wk_cg {O O' : Nat → Bool} {t : Nat} (ht : t < 64) (h : ∀ c, c < 64 → O c = O' c) : ∀ k c, c < 64 → (wk O t k c ↔ wk O' t k c)
  | 0, c, _ => by show (c = t ∧ O t = true) ↔ (c = t ∧ O' t = true); rw [h t ht]
  | k + 1, c, hc => by
    show (O c = true ∧ ∃ w, w < 4 ∧ ∃ c', nbr c w = some c' ∧ wk O t k c') ↔ (O' c = true ∧ ∃ w, w < 4 ∧ ∃ c', nbr c w = some c' ∧ wk O' t k c')
    rw [h c hc]
    constructor
    · rintro ⟨a, w, hw, c', hn, hk⟩
      exact ⟨a, w, hw, c', hn, (wk_cg ht h k c' (nbr_lt c hc w hw c' hn)).mp hk⟩
    · rintro ⟨a, w, hw, c', hn, hk⟩
      exact ⟨a, w, hw, c', hn, (wk_cg ht h k c' (nbr_lt c hc w hw c' hn)).mpr hk⟩
theorem dS_cg {O O' : Nat → Bool} {t c : Nat} (ht : t < 64) (hc : c < 64) (h : ∀ c, c < 64 → O c = O' c) : dS O t c = dS O' t c := by
  have k := wk_cg ht h
  cases e : dS O' t c with
  | none => exact dS_none.mpr (fun n q => dS_none.mp e n ((k n c hc).mp q))
  | some n => exact dS_some.mpr ⟨(k n c hc).mpr (dS_some.mp e).1, fun m hm q => (dS_some.mp e).2 m hm ((k m c hc).mp q)⟩
theorem bst_cg {f g : Nat → Option (Nat × Nat)} : ∀ {n : Nat}, (∀ i, i < n → f i = g i) → bst f n = bst g n
  | 0, _ => rfl
  | n + 1, h => by
    have e := bst_cg (n := n) (fun i hi => h i (by omega))
    simp only [bst, h n (by omega), e]
theorem nrst_cg {d d' : Nat → Option Nat} {c : Nat} (hc : c < 64) (h : ∀ c, c < 64 → d c = d' c) : nrst d c = nrst d' c := bst_cg (fun w hw => by
  cases e : nbr c w with
  | none => rw [nbF_n e, nbF_n e]
  | some j =>
    unfold nbF
    rw [e]
    show (d j).map _ = (d' j).map _
    rw [h j (nbr_lt c hc w hw j e)])
theorem dG_cg {O O' : Nat → Bool} {f t : Nat} (hf : f < 64) (ht : t < 64) (h : ∀ c, c < 64 → O c = O' c) : dG O f t = dG O' f t := by
  unfold dG
  rw [nrst_cg hf (fun c hc => dS_cg ht hc h)]
theorem dS_rec {O : Nat → Bool} {t c : Nat} (ht : t < 64) (hc : c < 64) (hO : O c = true) : dS O t c = dG O c t := by
  by_cases e : c = t
  · subst e
    unfold dG
    rw [if_pos rfl]
    exact dS_some.mpr ⟨⟨rfl, hO⟩, fun m hm => by omega⟩
  · have key : ∀ n, pth O c (n + 1) t ↔ wk O t (n + 1) c := fun n => by
      rw [show n + 1 = 0 + n + 1 by omega, ← pth_rev (O := O) (f := c) ht n 0]
      constructor
      · rintro ⟨i, w, c', hi, hp, hw, hn, hk⟩
        have hic : i = c := hp
        subst hic
        rw [Nat.zero_add]
        exact ⟨hO, w, hw, c', hn, hk⟩
      · intro q
        rw [Nat.zero_add] at q
        obtain ⟨-, w, hw, c', hn, hk⟩ := q
        exact ⟨c, w, c', hc, rfl, hw, hn, hk⟩
    cases hd : dS O t c with
    | none =>
      refine (dG_none hc ht e (fun m q => ?_)).symm
      cases m with
      | zero => exact e q.symm
      | succ m => exact dS_none.mp hd _ ((key m).mp q)
    | some n =>
      obtain ⟨h1, h2⟩ := dS_some.mp hd
      cases n with
      | zero => exact absurd h1.1 e
      | succ n =>
        refine (dG_some hc ht e ((key n).mpr h1) (fun m hm q => ?_)).symm
        cases m with
        | zero => exact e q.symm
        | succ m => exact h2 _ hm ((key m).mp q)
