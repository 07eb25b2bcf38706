/-! THE WORLD AT THE FIRST HEAD -/
def E00 : ES := (fun _ => 0, fun _ => 0, fun _ => false, fun _ => 0, fun _ _ => 0, fun _ => 0)
theorem n00 : (0 : Int32).toNatClampNeg = 0 := by decide
theorem z_nR : nR M00 = 0 := n00
theorem z_nS : nS M00 = 0 := n00
theorem z_nT : nT M00 = 0 := n00
theorem z_nO : nO M00 = 0 := n00
theorem z_nP : nP M00 = 0 := n00
theorem z_nC : nC M00 = 0 := n00
theorem z_tN : tN M00 = 0 := n00
theorem z_nL (o : Nat) : nL M00 o = 0 := n00
theorem z_VL (k : Nat) : VL M00 k = false := by unfold VL; rw [z_nO, decide_eq_false (Nat.not_lt_zero _), Bool.false_and]
theorem z_jn : ∀ i, jn M00 E00 i = 0
  | 0 => z_nS
  | 1 => z_nT
  | 2 => z_nO
  | 3 => z_nP
  | 4 => z_nR
  | 5 => rfl
  | 6 => rfl
  | i + 7 => by
    show (if i + 7 < 17 then nL M00 (i + 7 - 7) else eN E00 (i + 7)) = 0
    split
    · exact z_nL _
    · rfl
theorem z_0 : (0 : Int32) = nI 0 := by decide
theorem CNT00 : CNT M00 := by
  unfold CNT
  rw [z_nR, z_nS, z_nT, z_nO]
  refine ⟨⟨z_0, by omega⟩, ⟨z_0, by omega⟩, ⟨z_0, by omega⟩, ⟨z_0, by omega⟩, fun o _ => ?_⟩
  rw [z_nL]
  exact ⟨z_0, by omega⟩
theorem jOK00 : jOK M00 E00 := by
  refine ⟨CNT00, ⟨fun r hr => ?_, fun k hk => ?_, fun i hi => ?_, ?_, fun o _ _ => z_nL o⟩, fun i _ j hj => ?_, fun i _ => ?_⟩
  · rw [z_nR] at hr; exact absurd hr (Nat.not_lt_zero _)
  · rw [z_VL] at hk; cases hk
  · rw [z_nP] at hi; exact absurd hi (Nat.not_lt_zero _)
  · rw [z_nP]; exact z_0
  · rw [z_jn] at hj; exact absurd hj (Nat.not_lt_zero _)
  · rw [z_jn]
    refine ⟨Or.inl ⟨rfl, rfl⟩, ?_⟩
    split
    · exact ⟨rfl, by omega⟩
    · show 0 ≤ 45; omega
theorem INV00 : INV 0 M00 := by
  refine ⟨CNT00, ⟨fun r hr => ?_, fun r q hr _ _ => ?_, fun r q hr _ _ _ => ?_, fun r q hr _ _ _ _ => ?_⟩, ⟨fun o _ _ => z_nL o, fun t ht => ?_, fun t ht => ?_, fun k hk => ?_, fun k q hk _ _ _ _ => ?_, fun j _ => ?_, ?_, ?_⟩, ?_, ?_, fun i hi => ?_⟩
  · rw [z_nR] at hr; exact absurd hr (Nat.not_lt_zero _)
  · rw [z_nR] at hr; exact absurd hr (Nat.not_lt_zero _)
  · rw [z_nR] at hr; exact absurd hr (Nat.not_lt_zero _)
  · rw [z_nR] at hr; exact absurd hr (Nat.not_lt_zero _)
  · rw [z_nT] at ht; exact absurd ht (Nat.not_lt_zero _)
  · rw [z_nS] at ht; exact absurd ht (Nat.not_lt_zero _)
  · rw [z_VL] at hk; cases hk
  · rw [z_VL] at hk; cases hk
  · show (0 : Int32) = bI (decide (¬ (0 : Int32) = 0)); decide
  · rw [z_nC]; exact ⟨z_0, Nat.le_refl _⟩
  · rw [z_tN]; exact ⟨z_0, by omega⟩
  · rw [z_nP]; exact z_0
  · rw [z_nP]
    have h : fb_sm (pot M00) 30 ≤ 30 * 50 := fb_sm_bound (fun k _ => Nat.le_of_eq (by unfold pot; rw [z_VL, if_neg (by decide)]))
    omega
  · rw [z_nP] at hi; exact absurd hi (Nat.not_lt_zero _)
theorem CE00 : CE M00 E00 := by
  refine ⟨fun q _ => ⟨fun h => absurd (show false = true from h) (by decide), fun h => ?_⟩, fun r hr => ?_, fun s hs => ?_, fun g _ => ⟨?_, ?_⟩⟩
  · obtain ⟨r, hr, -⟩ := h; rw [z_nR] at hr; exact absurd hr (Nat.not_lt_zero _)
  · rw [z_nR] at hr; exact absurd hr (Nat.not_lt_zero _)
  · rw [z_nS] at hs; exact absurd hs (Nat.not_lt_zero _)
  · rw [z_nT]; rfl
  · rw [z_nP]; rfl
def ja00 (x u1 u2 u3 u4 u5 u6 u7 u8 u9 : Nat) : Nat → Nat → Nat := fun k i => match k with
  | 0 => u1
  | 1 => u2
  | 8 => x
  | 10 => match i with
    | 0 => u6
    | 1 => u7
    | 2 => u8
    | 3 => u9
    | 4 => u3
    | 5 => u4
    | _ => u5
  | _ => 0
def wh00 (x u1 u2 u3 u4 u5 u6 u7 u8 u9 : Nat) : Nat → Nat × Nat := fun z => if z = x then (8, 0) else if z = u1 then (0, 0) else if z = u2 then (1, 0) else if z = u3 then (10, 4) else if z = u4 then (10, 5) else if z = u5 then (10, 6) else if z = u6 then (10, 0) else if z = u7 then (10, 1) else if z = u8 then (10, 2) else (10, 3)
theorem bs00 {f : Nat → Int32} (h : ∀ i, f i = 0) : bs (fun c => decide (¬ f c = 0)) = 0 := (bs_cg (fun i _ => by rw [h]; decide)).trans bs_0.symm
set_option maxHeartbeats 4000000 in
set_option maxRecDepth 100000 in
theorem WJ00 {G : gG} {d0 : Nat} {Rf : Nat → Prop} {x u1 u2 u3 u4 u5 u6 u7 u8 u9 : Nat} {H : Heap} (h1 : x < u1) (h2 : u1 < u2) (h3 : u2 < u3) (h4 : u3 < u4) (h5 : u4 < u5) (h6 : u5 < u6) (h7 : u6 < u7) (h8 : u7 < u8) (h9 : u8 < u9) (hR : ∀ z, x ≤ z → z ≤ u9 → ¬ Rf z) (a8 : va_at G.1 gCl (x, .inr (8, [.ref u1, .ref u6, .ref u7, .ref u8, .ref u9, .int 0])) H) (a0 : va_at G.1 gCl (u1, .inr (0, [.ref u2, .ref u3, .int 0, .int 0, .int 0, .int 0, .ref u4, .ref u5])) H) (a1 : va_at G.1 gCl (u2, .inr (1, [.long 0, .long 0, .long 0])) H) (b3 : LO G u3 d0 0 0 H) (b4 : LO G u4 d0 0 0 H) (b5 : LO G u5 d0 0 0 H) (b6 : LO G u6 d0 0 0 H) (b7 : LO G u7 d0 0 0 H) (b8 : LO G u8 d0 0 0 H) (b9 : LO G u9 d0 0 0 H) : WJ G d0 Rf (ja00 x u1 u2 u3 u4 u5 u6 u7 u8 u9) M00 E00 H := by
  have wq_x : wh00 x u1 u2 u3 u4 u5 u6 u7 u8 u9 x = (8, 0) := by unfold wh00; rw [if_pos rfl]
  have wq_u1 : wh00 x u1 u2 u3 u4 u5 u6 u7 u8 u9 u1 = (0, 0) := by unfold wh00; rw [if_neg (by omega), if_pos rfl]
  have wq_u2 : wh00 x u1 u2 u3 u4 u5 u6 u7 u8 u9 u2 = (1, 0) := by unfold wh00; rw [if_neg (by omega), if_neg (by omega), if_pos rfl]
  have wq_u3 : wh00 x u1 u2 u3 u4 u5 u6 u7 u8 u9 u3 = (10, 4) := by unfold wh00; rw [if_neg (by omega), if_neg (by omega), if_neg (by omega), if_pos rfl]
  have wq_u4 : wh00 x u1 u2 u3 u4 u5 u6 u7 u8 u9 u4 = (10, 5) := by unfold wh00; rw [if_neg (by omega), if_neg (by omega), if_neg (by omega), if_neg (by omega), if_pos rfl]
  have wq_u5 : wh00 x u1 u2 u3 u4 u5 u6 u7 u8 u9 u5 = (10, 6) := by unfold wh00; rw [if_neg (by omega), if_neg (by omega), if_neg (by omega), if_neg (by omega), if_neg (by omega), if_pos rfl]
  have wq_u6 : wh00 x u1 u2 u3 u4 u5 u6 u7 u8 u9 u6 = (10, 0) := by unfold wh00; rw [if_neg (by omega), if_neg (by omega), if_neg (by omega), if_neg (by omega), if_neg (by omega), if_neg (by omega), if_pos rfl]
  have wq_u7 : wh00 x u1 u2 u3 u4 u5 u6 u7 u8 u9 u7 = (10, 1) := by unfold wh00; rw [if_neg (by omega), if_neg (by omega), if_neg (by omega), if_neg (by omega), if_neg (by omega), if_neg (by omega), if_neg (by omega), if_pos rfl]
  have wq_u8 : wh00 x u1 u2 u3 u4 u5 u6 u7 u8 u9 u8 = (10, 2) := by unfold wh00; rw [if_neg (by omega), if_neg (by omega), if_neg (by omega), if_neg (by omega), if_neg (by omega), if_neg (by omega), if_neg (by omega), if_neg (by omega), if_pos rfl]
  have wq_u9 : wh00 x u1 u2 u3 u4 u5 u6 u7 u8 u9 u9 = (10, 3) := by unfold wh00; rw [if_neg (by omega), if_neg (by omega), if_neg (by omega), if_neg (by omega), if_neg (by omega), if_neg (by omega), if_neg (by omega), if_neg (by omega), if_neg (by omega)]
  refine ⟨⟨fun _ => d0, fun _ => 0, wh00 x u1 u2 u3 u4 u5 u6 u7 u8 u9, fun k i hv => ?_, fun i hi => ?_, fun i hi => Or.inl ⟨rfl, z_jn i, rfl⟩⟩, jOK00⟩
  · match k, hv with
    | 0, hv =>
      have hi : i = 0 := hv
      subst hi
      exact ⟨a0, wq_u1, hR u1 (by omega) (by omega)⟩
    | 1, hv =>
      have hi : i = 0 := hv
      subst hi
      refine ⟨?_, wq_u2, hR u2 (by omega) (by omega)⟩
      show va_at G.1 gCl (u2, .inr (1, [.long (bs (fun c => decide (¬ M00 2 c = 0))), .long (bs (fun c => decide (¬ M00 3 c = 0))), .long (bs (fun _ => false))])) H
      rw [bs00 (f := M00 2) (fun _ => rfl), bs00 (f := M00 3) (fun _ => rfl), ← bs_0]
      exact a1
    | 2, hv => exact absurd ((z_VL i).symm.trans hv) (by decide)
    | 3, hv => exact absurd (show i < 0 from z_nO ▸ (show i < nO M00 from hv)) (Nat.not_lt_zero _)
    | 4, hv => exact absurd (show i < 0 from z_nP ▸ (show i < nP M00 from hv)) (Nat.not_lt_zero _)
    | 5, hv => exact absurd (show i < 0 from z_nR ▸ (show i < nR M00 from hv)) (Nat.not_lt_zero _)
    | 6, hv => exact absurd (show i < 0 from z_nS ▸ (show i < nS M00 from hv)) (Nat.not_lt_zero _)
    | 7, hv => exact absurd (show i < 0 from z_nT ▸ (show i < nT M00 from hv)) (Nat.not_lt_zero _)
    | 8, hv =>
      have hi : i = 0 := hv
      subst hi
      exact ⟨a8, wq_x, hR x (by omega) (by omega)⟩
    | k + 9, hv => exact (show False from hv).elim
  · have h7_ : i < 7 := by
      rcases hi with h | h | h
      · exact h
      · have h := h.2; rw [z_nO] at h; omega
      · have h := h.2; rw [z_nS] at h; omega
    rw [z_jn]
    match i, h7_ with
    | 0, _ => exact ⟨b6, wq_u6, hR u6 (by omega) (by omega)⟩
    | 1, _ => exact ⟨b7, wq_u7, hR u7 (by omega) (by omega)⟩
    | 2, _ => exact ⟨b8, wq_u8, hR u8 (by omega) (by omega)⟩
    | 3, _ => exact ⟨b9, wq_u9, hR u9 (by omega) (by omega)⟩
    | 4, _ => exact ⟨b3, wq_u3, hR u3 (by omega) (by omega)⟩
    | 5, _ => exact ⟨b4, wq_u4, hR u4 (by omega) (by omega)⟩
    | 6, _ => exact ⟨b5, wq_u5, hR u5 (by omega) (by omega)⟩
    | i + 7, h => exact absurd h (by omega)
theorem df_X8 : ∀ j, j < 6 → defaultValue (tyX8 j) = vp_V [.null, .null, .null, .null, .null, .int 0] j := fun j hj => by
  match j, hj with
  | 0, _ => rfl
  | 1, _ => rfl
  | 2, _ => rfl
  | 3, _ => rfl
  | 4, _ => rfl
  | 5, _ => rfl
  | _ + 6, hj => omega
theorem df_X9 : ∀ j, j < 40 → defaultValue (tyX9 j) = vp_V [.int 0, .int 0, .null, .null, .int 0, .null, .int 0, .null, .null, .null, .int 0, .null, .null, .null, .null, .null, .int 0, .int 0, .null, .null, .null, .null, .null, .null, .null, .null, .null, .null, .int 0, .int 0, .int 0, .int 0, .null, .null, .int 0, .null, .null, .null, .null, .null] j := fun j hj => by
  match j, hj with
  | 0, _ => rfl
  | 1, _ => rfl
  | 2, _ => rfl
  | 3, _ => rfl
  | 4, _ => rfl
  | 5, _ => rfl
  | 6, _ => rfl
  | 7, _ => rfl
  | 8, _ => rfl
  | 9, _ => rfl
  | 10, _ => rfl
  | 11, _ => rfl
  | 12, _ => rfl
  | 13, _ => rfl
  | 14, _ => rfl
  | 15, _ => rfl
  | 16, _ => rfl
  | 17, _ => rfl
  | 18, _ => rfl
  | 19, _ => rfl
  | 20, _ => rfl
  | 21, _ => rfl
  | 22, _ => rfl
  | 23, _ => rfl
  | 24, _ => rfl
  | 25, _ => rfl
  | 26, _ => rfl
  | 27, _ => rfl
  | 28, _ => rfl
  | 29, _ => rfl
  | 30, _ => rfl
  | 31, _ => rfl
  | 32, _ => rfl
  | 33, _ => rfl
  | 34, _ => rfl
  | 35, _ => rfl
  | 36, _ => rfl
  | 37, _ => rfl
  | 38, _ => rfl
  | 39, _ => rfl
  | _ + 40, hj => omega
theorem mA_lt {G : gG} {ma : Nat → Nat} {M : MS} {H : Heap} (h : WM G ma M H) {q : Nat} (hq : mA ma q) : q < H.size := by
  rcases hq with hq | ⟨k, hk, hq⟩
  · rw [hq]; exact h.1.lt
  · rw [hq]; exact (h.2 k hk).lt
