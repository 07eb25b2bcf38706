/-! THE CONSTRUCTOR OF THE REFERENCE -/
theorem ac_Z : Cond.arrayClass FieldType.boolean ∈ BIG := bwi 1438 (by decide +kernel) (by decide)
theorem ac_I : Cond.arrayClass FieldType.int ∈ BIG := bwi 1439 (by decide +kernel) (by decide)
/-- the reference's fields, arrays made as far as n -/
def iFv (ma : Nat → Nat) (n k : Nat) : Value := if mLen k = 0 then .int 0 else if k < n then .ref (ma k) else .null
def iFs (ma : Nat → Nat) (n : Nat) : List Value := (List.range 40).map (iFv ma n)
theorem iFs_len (ma : Nat → Nat) (n : Nat) : (iFs ma n).length = 40 := by simp [iFs]
theorem iFs_get (ma : Nat → Nat) (n : Nat) {k : Nat} (hk : k < 40) : (iFs ma n)[k]? = some (iFv ma n k) := by simp [iFs, hk]
def M00 : MS := fun _ _ => 0
def WI (G : gG) (q N : Nat) (ma : Nat → Nat) (n : Nat) (H : Heap) : Prop := va_at G.1 gCl (q, .inr (9, iFs ma n)) H ∧ q < N ∧ N ≤ H.size ∧ (∀ k, k < n → 0 < mLen k → va_at G.1 gCl (ma k, .inl (mCls G k, (mLen k, .inl (M00 k)))) H ∧ N ≤ ma k) ∧ ∀ j k, j < k → k < n → 0 < mLen j → 0 < mLen k → ma j < ma k
theorem iFs_set {ma : Nat → Nat} {n k z : Nat} (hnk : n ≤ k) (hk : k < 40) (hm : 0 < mLen k) (hsk : ∀ j, n ≤ j → j < k → mLen j = 0) : (iFs ma n).set k (.ref z) = iFs (fun j => if j = k then z else ma j) (k + 1) := by
  apply List.ext_getElem?
  intro j
  rw [List.getElem?_set]
  by_cases hj : j < 40
  · by_cases e : k = j
    · subst e
      rw [if_pos rfl, if_pos (by rw [iFs_len]; exact hk), iFs_get _ _ hk]
      unfold iFv
      rw [if_neg (by omega), if_pos (by omega)]
      dsimp only
      rw [if_pos rfl]
    · rw [if_neg e, iFs_get _ _ hj, iFs_get _ _ hj]
      unfold iFv
      by_cases h0 : mLen j = 0
      · rw [if_pos h0, if_pos h0]
      · rw [if_neg h0, if_neg h0]
        have hjn : j < n ↔ j < k + 1 := ⟨fun a => by omega, fun a => by
          rcases Nat.lt_or_ge j n with b | b
          · exact b
          · exact absurd (hsk j b (by omega)) h0⟩
        by_cases a : j < n
        · rw [if_pos a, if_pos (hjn.mp a)]
          dsimp only
          rw [if_neg (fun y : j = k => e y.symm)]
        · rw [if_neg a, if_neg (fun z => a (hjn.mpr z))]
  · rw [if_neg (by omega)]
    simp [iFs, hj]
section MI
variable {p : Program} {l : Launch} {e : Env} {R : Room} {s : State} {m : MethodId} {args : Array Value} {below : List Frame} {meth : Method} {c : Code} {H : Heap} {locs : List Loc} {cells slots : Nat} {Q : State → Prop}
variable {cc : ByteArray} {pc nL : Nat} {ls : Array Slot} {rest : List Value} {G : gG} {ma : Nat → Nat} {q N n : Nat}
theorem mi_step (hC : CallFix p m c cc nL s args BIG RX9) (hK : gK G s) (hS : va_S (rvA q N) s.heap H locs) (hWI : WI G q N ma n H) (k : Nat) (hnk : n ≤ k) (hk : k < 40) (hm : 0 < mLen k) (hsk : ∀ j, n ≤ j → j < k → mLen j = 0) {at_ : ArrayType} (hat_ : (mZ k = true ∧ at_ = .boolean ∧ tyX9 k = .array .boolean) ∨ (mZ k = false ∧ at_ = .int ∧ tyX9 k = .array .int)) {index : Nat} (hlink : Cond.fieldLink RX9 index "ShelfSwarmModel" (TX9 k).2.1 (TX9 k).2.2.1 ∈ BIG) (h1 : (TX9 k).1 = "ShelfSwarmModel") (hfin : (TX9 k).2.2.2 = true) (hin2 : meth.name = "<init>") (hcells : cells + 1 ≤ R.cells) (hslots : slots + mLen k ≤ R.slots)
    (d1 : decode cc pc = .ok (.newarray at_, 2)) (d2 : decode cc (pc + 2) = .ok (.putfield index, 3))
    (kk : ∀ (ma' : Nat → Nat) (H1 : Heap) (locs1 : List Loc), WI G q N ma' (k + 1) H1 → va_S (rvA q N) s.heap H1 locs1 → W p l e R s m args below meth c H1 locs1 (cells + 1) (slots + mLen k) Q (F0 m (pc + 2 + 3) ls rest)) : W p l e R s m args below meth c H locs cells slots Q (F0 m pc ls (.int (nI (mLen k)) :: .ref q :: rest)) := by
  obtain ⟨w1, w2, w3, w4, w5⟩ := hWI
  have hlen := mLen_lt k
  have hle : mLen k ≤ 1500 := by unfold mLen; split <;> decide
  have hty : ∃ ty, newarray.typeOf at_ = ty ∧ (ty = .int ∨ ty = .boolean) ∧ componentBytes ty ≤ 8 ∧ defaultValue ty = .int 0 ∧ Cond.arrayClass ty ∈ BIG ∧ va_RA s (mCls G k) ty ∧ tyX9 k = .array ty := by
    rcases hat_ with ⟨a, rfl, b⟩ | ⟨a, rfl, b⟩
    · exact ⟨.boolean, rfl, Or.inr rfl, by decide, rfl, ac_Z, by rw [show mCls G k = G.2.2.1 from if_pos a]; exact (hK.1.2 1 _ rfl).2, b⟩
    · exact ⟨.int, rfl, Or.inl rfl, by decide, rfl, ac_I, by rw [show mCls G k = G.2.1 from if_neg (by rw [a]; decide)]; exact (hK.1.2 0 _ rfl).2, b⟩
  obtain ⟨ty, t1, t0, t2, t3, t4, t5, t6⟩ := hty
  refine va_newaK hC.1 hC.2.1 (by rw [t1]; exact hC.2.2.2.2 _ t4) rfl d1 rfl (nI_pos (by omega)) (nI_clamp (by omega)) (by rw [t1]; have := Nat.mul_le_mul hle t2; omega) hcells hslots rfl (fun H1 cA e1 z1 o1 hAr hNm => ?_)
  rw [t1] at e1 hNm
  have hcA : cA = mCls G k := by
    have t5' : s.vm.findClass ("[" ++ ty.toString) = some (mCls G k) := by
      rcases t0 with rfl | rfl
      · exact t5
      · exact t5
    exact Option.some.inj (hNm.symm.trans t5')
  have hz : va_at G.1 gCl (H.size, .inl (mCls G k, (mLen k, .inl (M00 k)))) H1 := by
    show H1[H.size]? = some (vp_cell _ _)
    rw [e1, t3, hcA]
    rfl
  have hS1 : va_S (rvA q N) s.heap H1 locs := ⟨Nat.le_trans hS.1 (by omega), fun x h1 h2 => (o1 x (Nat.lt_of_lt_of_le h1 hS.1)).trans (hS.2.1 x h1 h2), hS.2.2⟩
  have w1' := w1.kept (o1 _ w1.lt)
  refine r2_putF hC hK hS1 (Or.inl rfl) w1' lay_X9 tyX9 tyX9_ok nmX9 rfl k hk hlink (fun x hx => by rw [h1] at hx; exact hx) hfin hin2 h1 (by rw [t6]; rfl) (by rw [t6]; rfl) (by rw [iFs_len]; exact hk) d2 (fun H2 locs2 at2 z2 o2 hS2 => ?_)
  have hq : q < H.size := w1.lt
  refine kk (fun j => if j = k then H.size else ma j) H2 locs2 ⟨by rw [← iFs_set hnk hk hm hsk]; exact at2, w2, by omega, fun j hj hmj => ?_, fun i j hij hj hmi hmj => ?_⟩ hS2
  · by_cases e : j = k
    · subst e
      dsimp only
      rw [if_pos rfl]
      exact ⟨hz.kept (o2 _ (by omega)), w3⟩
    · dsimp only
      rw [if_neg e]
      have hjn : j < n := by
        rcases Nat.lt_or_ge j n with b | b
        · exact b
        · have := hsk j b (by omega); omega
      obtain ⟨a, b⟩ := w4 j hjn hmj
      have al := a.lt
      dsimp only at al
      exact ⟨(a.kept (o1 _ al)).kept (o2 _ (by omega)), b⟩
  · have hin : i < n := by
      rcases Nat.lt_or_ge i n with b | b
      · exact b
      · have := hsk i b (by omega); omega
    dsimp only
    rw [if_neg (show i ≠ k by omega)]
    by_cases e : j = k
    · rw [if_pos e]
      have al := (w4 i hin hmi).1.lt
      exact al
    · rw [if_neg e]
      have hjn : j < n := by
        rcases Nat.lt_or_ge j n with b | b
        · exact b
        · have := hsk j b (by omega); omega
      exact w5 i j hij hjn hmi hmj
end MI
theorem WI.end {G : gG} {q N : Nat} {ma : Nat → Nat} {H : Heap} (h : WI G q N ma 40 H) : mI (fun k => if k = 0 then q else ma k) ∧ WM G (fun k => if k = 0 then q else ma k) M00 H ∧ ∀ z, mA (fun k => if k = 0 then q else ma k) z → z = q ∨ N ≤ z := by
  obtain ⟨w1, w2, w3, w4, w5⟩ := h
  have h40 : ∀ k, 0 < mLen k → k < 40 ∧ k ≠ 0 := fun k hk => by
    unfold mLen at hk
    split at hk <;> first | omega | (exact ⟨by decide, by decide⟩)
  have hma : ∀ k, 0 < mLen k → (if k = 0 then q else ma k) = ma k := fun k hk => if_neg (h40 k hk).2
  refine ⟨⟨fun k hk => ?_, fun j k hj hk e => ?_⟩, ⟨?_, fun k hk => ?_⟩, fun z hz => ?_⟩
  · dsimp only
    rw [hma k hk]
    have := (w4 k (h40 k hk).1 hk).2
    show ma k ≠ (if 0 = 0 then q else ma 0)
    rw [if_pos rfl]
    omega
  · dsimp only at e
    rw [hma j hj, hma k hk] at e
    rcases Nat.lt_trichotomy j k with a | a | a
    · have := w5 j k a (h40 k hk).1 hj hk; omega
    · exact a
    · have := w5 k j a (h40 j hj).1 hk hj; omega
  · show va_at G.1 gCl (q, .inr (9, mFs _ M00)) H
    have e : mFs (fun k => if k = 0 then q else ma k) M00 = iFs ma 40 := by
      apply List.ext_getElem?
      intro j
      by_cases hj : j < 40
      · rw [mFs_get _ _ hj, iFs_get _ _ hj]
        unfold mFv iFv
        cases hL : mLen j with
        | zero => rw [if_pos rfl]; rfl
        | succ t =>
          rw [if_neg (by omega), if_pos hj]
          show some (Value.ref (if j = 0 then q else ma j)) = _
          rw [if_neg (h40 j (by omega)).2]
      · simp [mFs, iFs, hj]
    rw [e]; exact w1
  · dsimp only; rw [hma k hk]; exact (w4 k (h40 k hk).1 hk).1
  · rcases hz with hz | ⟨k, hk, hz⟩
    · exact Or.inl hz
    · dsimp only at hz
      rw [hma k hk] at hz
      rw [hz]; exact Or.inr (w4 k (h40 k hk).1 hk).2
set_option maxHeartbeats 4000000 in
set_option maxRecDepth 100000 in
theorem c9_init (l : Launch) (G : gG) (q N : Nat) : Met l yX9_init (wB yX9_init cX9_init 1 none) (rmL 1 28 5009) (va_Pc [.ref q] (fun S => S.heap.size = N ∧ va_at G.1 gCl (q, .inr (9, [.int 0, .int 0, .null, .null, .int 0, .null, .int 0, .null, .null, .null, .int 0, .null, .null, .null, .null, .null, .int 0, .int 0, .null, .null, .null, .null, .null, .null, .null, .null, .null, .null, .int 0, .int 0, .int 0, .int 0, .null, .null, .int 0, .null, .null, .null, .null, .null])) S.heap ∧ gK G S)) (va_Qv (S := Nat → Nat) (fun ma => ma 0 = q ∧ mI ma ∧ ∀ z, mA ma z → z = q ∨ N ≤ z) (fun ma z9 => WM G ma M00 z9.heap) (rvA q N)) 28 5009 (rvA q N) := by
  refine st_N (own := RX9) (by decide +kernel) rfl (Nat.le_of_ble_eq_true rfl) ?_
  intro p e s m below meth c ls args Q hQ hC hr hlk hnm hl hP
  obtain ⟨hN, ho, hK⟩ := hP
  have hx := hC.1
  have hb := hC.2.1
  have hl : lv_has ls 1 [(0, .ref q)] := hl
  have hqN : q < N := by rw [← hN]; exact ho.lt
  obtain ⟨H, locs, hHe, hLe⟩ : ∃ (H : Heap) (locs : List Loc), H = s.heap ∧ locs = [] := ⟨_, _, rfl, rfl⟩
  have hS : va_S (rvA q N) s.heap H locs := by rw [hHe, hLe]; exact va_S.rf
  have hWI : WI G q N (fun _ => 0) 0 H := by
    rw [hHe]
    exact ⟨ho, hqN, by omega, fun k hk => by omega, fun j k _ hk => by omega⟩
  suffices hgo : W p l e (rmL 1 28 5009) s m args below meth c H locs 0 0 Q (F0 m 0 ls []) by
    rw [hHe, hLe] at hgo
    exact hgo
  clear hLe
  refine lv_aload_n hx hb dX9_init_0 rfl (lv_at hl 0 rfl) ?_
  refine r2_oinit hC ml_X9_1 hl.1 (Nat.le_of_ble_eq_true rfl) ⟨Nat.le_of_ble_eq_true rfl, Nat.le_of_ble_eq_true rfl⟩ dX9_init_1 ?_
  refine lv_aload_n hx hb dX9_init_4 rfl (lv_at hl 0 rfl) ?_
  refine lv_bipush (v := 64) hx hb dX9_init_5 (by decide) ?_
  refine mi_step (n := 0) hC hK hS hWI 2 (by decide) (by decide) (by decide) (fun j a b_ => ?_) (Or.inl ⟨rfl, rfl, rfl⟩) fl_X9_7 rfl rfl hnm (by show 0 + 1 ≤ 28; omega) (by show 0 + 64 ≤ 5009; omega) dX9_init_7 dX9_init_9 (fun ma H locs hWI hS => ?_)
  · have : j = 0 ∨ j = 1 := by omega
    rcases this with rfl | rfl <;> rfl
  refine lv_aload_n hx hb dX9_init_12 rfl (lv_at hl 0 rfl) ?_
  refine lv_bipush (v := 64) hx hb dX9_init_13 (by decide) ?_
  refine mi_step (n := 3) hC hK hS hWI 3 (by decide) (by decide) (by decide) (fun j a b_ => ?_) (Or.inl ⟨rfl, rfl, rfl⟩) fl_X9_13 rfl rfl hnm (by show 0 + 1 + 1 ≤ 28; omega) (by show 0 + 64 + 64 ≤ 5009; omega) dX9_init_15 dX9_init_17 (fun ma H locs hWI hS => ?_)
  · omega
  refine lv_aload_n hx hb dX9_init_20 rfl (lv_at hl 0 rfl) ?_
  refine lv_iconst (v := 3) hx hb dX9_init_21 (by decide) ?_
  refine mi_step (n := 4) hC hK hS hWI 5 (by decide) (by decide) (by decide) (fun j a b_ => ?_) (Or.inr ⟨rfl, rfl, rfl⟩) fl_X9_16 rfl rfl hnm (by show 0 + 1 + 1 + 1 ≤ 28; omega) (by show 0 + 64 + 64 + 3 ≤ 5009; omega) dX9_init_22 dX9_init_24 (fun ma H locs hWI hS => ?_)
  · have : j = 4 := by omega
    subst this; rfl
  refine lv_aload_n hx hb dX9_init_27 rfl (lv_at hl 0 rfl) ?_
  refine lv_bipush (v := 16) hx hb dX9_init_28 (by decide) ?_
  refine mi_step (n := 6) hC hK hS hWI 7 (by decide) (by decide) (by decide) (fun j a b_ => ?_) (Or.inr ⟨rfl, rfl, rfl⟩) fl_X9_20 rfl rfl hnm (by show 0 + 1 + 1 + 1 + 1 ≤ 28; omega) (by show 0 + 64 + 64 + 3 + 16 ≤ 5009; omega) dX9_init_30 dX9_init_32 (fun ma H locs hWI hS => ?_)
  · have : j = 6 := by omega
    subst this; rfl
  refine lv_aload_n hx hb dX9_init_35 rfl (lv_at hl 0 rfl) ?_
  refine lv_bipush (v := 16) hx hb dX9_init_36 (by decide) ?_
  refine mi_step (n := 8) hC hK hS hWI 8 (by decide) (by decide) (by decide) (fun j a b_ => ?_) (Or.inr ⟨rfl, rfl, rfl⟩) fl_X9_23 rfl rfl hnm (by show 0 + 1 + 1 + 1 + 1 + 1 ≤ 28; omega) (by show 0 + 64 + 64 + 3 + 16 + 16 ≤ 5009; omega) dX9_init_38 dX9_init_40 (fun ma H locs hWI hS => ?_)
  · omega
  refine lv_aload_n hx hb dX9_init_43 rfl (lv_at hl 0 rfl) ?_
  refine lv_bipush (v := 16) hx hb dX9_init_44 (by decide) ?_
  refine mi_step (n := 9) hC hK hS hWI 9 (by decide) (by decide) (by decide) (fun j a b_ => ?_) (Or.inr ⟨rfl, rfl, rfl⟩) fl_X9_26 rfl rfl hnm (by show 0 + 1 + 1 + 1 + 1 + 1 + 1 ≤ 28; omega) (by show 0 + 64 + 64 + 3 + 16 + 16 + 16 ≤ 5009; omega) dX9_init_46 dX9_init_48 (fun ma H locs hWI hS => ?_)
  · omega
  refine lv_aload_n hx hb dX9_init_51 rfl (lv_at hl 0 rfl) ?_
  refine lv_bipush (v := 10) hx hb dX9_init_52 (by decide) ?_
  refine mi_step (n := 10) hC hK hS hWI 11 (by decide) (by decide) (by decide) (fun j a b_ => ?_) (Or.inr ⟨rfl, rfl, rfl⟩) fl_X9_29 rfl rfl hnm (by show 0 + 1 + 1 + 1 + 1 + 1 + 1 + 1 ≤ 28; omega) (by show 0 + 64 + 64 + 3 + 16 + 16 + 16 + 10 ≤ 5009; omega) dX9_init_54 dX9_init_56 (fun ma H locs hWI hS => ?_)
  · have : j = 10 := by omega
    subst this; rfl
  refine lv_aload_n hx hb dX9_init_59 rfl (lv_at hl 0 rfl) ?_
  refine lv_bipush (v := 30) hx hb dX9_init_60 (by decide) ?_
  refine mi_step (n := 12) hC hK hS hWI 12 (by decide) (by decide) (by decide) (fun j a b_ => ?_) (Or.inr ⟨rfl, rfl, rfl⟩) fl_X9_32 rfl rfl hnm (by show 0 + 1 + 1 + 1 + 1 + 1 + 1 + 1 + 1 ≤ 28; omega) (by show 0 + 64 + 64 + 3 + 16 + 16 + 16 + 10 + 30 ≤ 5009; omega) dX9_init_62 dX9_init_64 (fun ma H locs hWI hS => ?_)
  · omega
  refine lv_aload_n hx hb dX9_init_67 rfl (lv_at hl 0 rfl) ?_
  refine lv_bipush (v := 30) hx hb dX9_init_68 (by decide) ?_
  refine mi_step (n := 13) hC hK hS hWI 13 (by decide) (by decide) (by decide) (fun j a b_ => ?_) (Or.inr ⟨rfl, rfl, rfl⟩) fl_X9_35 rfl rfl hnm (by show 0 + 1 + 1 + 1 + 1 + 1 + 1 + 1 + 1 + 1 ≤ 28; omega) (by show 0 + 64 + 64 + 3 + 16 + 16 + 16 + 10 + 30 + 30 ≤ 5009; omega) dX9_init_70 dX9_init_72 (fun ma H locs hWI hS => ?_)
  · omega
  refine lv_aload_n hx hb dX9_init_75 rfl (lv_at hl 0 rfl) ?_
  refine lv_bipush (v := 30) hx hb dX9_init_76 (by decide) ?_
  refine mi_step (n := 14) hC hK hS hWI 14 (by decide) (by decide) (by decide) (fun j a b_ => ?_) (Or.inr ⟨rfl, rfl, rfl⟩) fl_X9_38 rfl rfl hnm (by show 0 + 1 + 1 + 1 + 1 + 1 + 1 + 1 + 1 + 1 + 1 ≤ 28; omega) (by show 0 + 64 + 64 + 3 + 16 + 16 + 16 + 10 + 30 + 30 + 30 ≤ 5009; omega) dX9_init_78 dX9_init_80 (fun ma H locs hWI hS => ?_)
  · omega
  refine lv_aload_n hx hb dX9_init_83 rfl (lv_at hl 0 rfl) ?_
  refine lv_bipush (v := 30) hx hb dX9_init_84 (by decide) ?_
  refine mi_step (n := 15) hC hK hS hWI 15 (by decide) (by decide) (by decide) (fun j a b_ => ?_) (Or.inr ⟨rfl, rfl, rfl⟩) fl_X9_41 rfl rfl hnm (by show 0 + 1 + 1 + 1 + 1 + 1 + 1 + 1 + 1 + 1 + 1 + 1 ≤ 28; omega) (by show 0 + 64 + 64 + 3 + 16 + 16 + 16 + 10 + 30 + 30 + 30 + 30 ≤ 5009; omega) dX9_init_86 dX9_init_88 (fun ma H locs hWI hS => ?_)
  · omega
  refine lv_aload_n hx hb dX9_init_91 rfl (lv_at hl 0 rfl) ?_
  refine lv_bipush (v := 6) hx hb dX9_init_92 (by decide) ?_
  refine mi_step (n := 16) hC hK hS hWI 18 (by decide) (by decide) (by decide) (fun j a b_ => ?_) (Or.inr ⟨rfl, rfl, rfl⟩) fl_X9_44 rfl rfl hnm (by show 0 + 1 + 1 + 1 + 1 + 1 + 1 + 1 + 1 + 1 + 1 + 1 + 1 ≤ 28; omega) (by show 0 + 64 + 64 + 3 + 16 + 16 + 16 + 10 + 30 + 30 + 30 + 30 + 6 ≤ 5009; omega) dX9_init_94 dX9_init_96 (fun ma H locs hWI hS => ?_)
  · have : j = 16 ∨ j = 17 := by omega
    rcases this with rfl | rfl <;> rfl
  refine lv_aload_n hx hb dX9_init_99 rfl (lv_at hl 0 rfl) ?_
  refine lv_bipush (v := 6) hx hb dX9_init_100 (by decide) ?_
  refine mi_step (n := 19) hC hK hS hWI 19 (by decide) (by decide) (by decide) (fun j a b_ => ?_) (Or.inr ⟨rfl, rfl, rfl⟩) fl_X9_47 rfl rfl hnm (by show 0 + 1 + 1 + 1 + 1 + 1 + 1 + 1 + 1 + 1 + 1 + 1 + 1 + 1 ≤ 28; omega) (by show 0 + 64 + 64 + 3 + 16 + 16 + 16 + 10 + 30 + 30 + 30 + 30 + 6 + 6 ≤ 5009; omega) dX9_init_102 dX9_init_104 (fun ma H locs hWI hS => ?_)
  · omega
  refine lv_aload_n hx hb dX9_init_107 rfl (lv_at hl 0 rfl) ?_
  refine lv_bipush (v := 6) hx hb dX9_init_108 (by decide) ?_
  refine mi_step (n := 20) hC hK hS hWI 20 (by decide) (by decide) (by decide) (fun j a b_ => ?_) (Or.inr ⟨rfl, rfl, rfl⟩) fl_X9_50 rfl rfl hnm (by show 0 + 1 + 1 + 1 + 1 + 1 + 1 + 1 + 1 + 1 + 1 + 1 + 1 + 1 + 1 ≤ 28; omega) (by show 0 + 64 + 64 + 3 + 16 + 16 + 16 + 10 + 30 + 30 + 30 + 30 + 6 + 6 + 6 ≤ 5009; omega) dX9_init_110 dX9_init_112 (fun ma H locs hWI hS => ?_)
  · omega
  refine lv_aload_n hx hb dX9_init_115 rfl (lv_at hl 0 rfl) ?_
  refine lv_bipush (v := 6) hx hb dX9_init_116 (by decide) ?_
  refine mi_step (n := 21) hC hK hS hWI 21 (by decide) (by decide) (by decide) (fun j a b_ => ?_) (Or.inr ⟨rfl, rfl, rfl⟩) fl_X9_53 rfl rfl hnm (by show 0 + 1 + 1 + 1 + 1 + 1 + 1 + 1 + 1 + 1 + 1 + 1 + 1 + 1 + 1 + 1 ≤ 28; omega) (by show 0 + 64 + 64 + 3 + 16 + 16 + 16 + 10 + 30 + 30 + 30 + 30 + 6 + 6 + 6 + 6 ≤ 5009; omega) dX9_init_118 dX9_init_120 (fun ma H locs hWI hS => ?_)
  · omega
  refine lv_aload_n hx hb dX9_init_123 rfl (lv_at hl 0 rfl) ?_
  refine lv_bipush (v := 6) hx hb dX9_init_124 (by decide) ?_
  refine mi_step (n := 22) hC hK hS hWI 22 (by decide) (by decide) (by decide) (fun j a b_ => ?_) (Or.inr ⟨rfl, rfl, rfl⟩) fl_X9_56 rfl rfl hnm (by show 0 + 1 + 1 + 1 + 1 + 1 + 1 + 1 + 1 + 1 + 1 + 1 + 1 + 1 + 1 + 1 + 1 ≤ 28; omega) (by show 0 + 64 + 64 + 3 + 16 + 16 + 16 + 10 + 30 + 30 + 30 + 30 + 6 + 6 + 6 + 6 + 6 ≤ 5009; omega) dX9_init_126 dX9_init_128 (fun ma H locs hWI hS => ?_)
  · omega
  refine lv_aload_n hx hb dX9_init_131 rfl (lv_at hl 0 rfl) ?_
  refine lv_bipush (v := 6) hx hb dX9_init_132 (by decide) ?_
  refine mi_step (n := 23) hC hK hS hWI 23 (by decide) (by decide) (by decide) (fun j a b_ => ?_) (Or.inr ⟨rfl, rfl, rfl⟩) fl_X9_59 rfl rfl hnm (by show 0 + 1 + 1 + 1 + 1 + 1 + 1 + 1 + 1 + 1 + 1 + 1 + 1 + 1 + 1 + 1 + 1 + 1 ≤ 28; omega) (by show 0 + 64 + 64 + 3 + 16 + 16 + 16 + 10 + 30 + 30 + 30 + 30 + 6 + 6 + 6 + 6 + 6 + 6 ≤ 5009; omega) dX9_init_134 dX9_init_136 (fun ma H locs hWI hS => ?_)
  · omega
  refine lv_aload_n hx hb dX9_init_139 rfl (lv_at hl 0 rfl) ?_
  refine lv_bipush (v := 6) hx hb dX9_init_140 (by decide) ?_
  refine mi_step (n := 24) hC hK hS hWI 24 (by decide) (by decide) (by decide) (fun j a b_ => ?_) (Or.inr ⟨rfl, rfl, rfl⟩) fl_X9_62 rfl rfl hnm (by show 0 + 1 + 1 + 1 + 1 + 1 + 1 + 1 + 1 + 1 + 1 + 1 + 1 + 1 + 1 + 1 + 1 + 1 + 1 ≤ 28; omega) (by show 0 + 64 + 64 + 3 + 16 + 16 + 16 + 10 + 30 + 30 + 30 + 30 + 6 + 6 + 6 + 6 + 6 + 6 + 6 ≤ 5009; omega) dX9_init_142 dX9_init_144 (fun ma H locs hWI hS => ?_)
  · omega
  refine lv_aload_n hx hb dX9_init_147 rfl (lv_at hl 0 rfl) ?_
  refine lv_bipush (v := 6) hx hb dX9_init_148 (by decide) ?_
  refine mi_step (n := 25) hC hK hS hWI 25 (by decide) (by decide) (by decide) (fun j a b_ => ?_) (Or.inr ⟨rfl, rfl, rfl⟩) fl_X9_65 rfl rfl hnm (by show 0 + 1 + 1 + 1 + 1 + 1 + 1 + 1 + 1 + 1 + 1 + 1 + 1 + 1 + 1 + 1 + 1 + 1 + 1 + 1 ≤ 28; omega) (by show 0 + 64 + 64 + 3 + 16 + 16 + 16 + 10 + 30 + 30 + 30 + 30 + 6 + 6 + 6 + 6 + 6 + 6 + 6 + 6 ≤ 5009; omega) dX9_init_150 dX9_init_152 (fun ma H locs hWI hS => ?_)
  · omega
  refine lv_aload_n hx hb dX9_init_155 rfl (lv_at hl 0 rfl) ?_
  refine lv_bipush (v := 6) hx hb dX9_init_156 (by decide) ?_
  refine mi_step (n := 26) hC hK hS hWI 26 (by decide) (by decide) (by decide) (fun j a b_ => ?_) (Or.inl ⟨rfl, rfl, rfl⟩) fl_X9_68 rfl rfl hnm (by show 0 + 1 + 1 + 1 + 1 + 1 + 1 + 1 + 1 + 1 + 1 + 1 + 1 + 1 + 1 + 1 + 1 + 1 + 1 + 1 + 1 ≤ 28; omega) (by show 0 + 64 + 64 + 3 + 16 + 16 + 16 + 10 + 30 + 30 + 30 + 30 + 6 + 6 + 6 + 6 + 6 + 6 + 6 + 6 + 6 ≤ 5009; omega) dX9_init_158 dX9_init_160 (fun ma H locs hWI hS => ?_)
  · omega
  refine lv_aload_n hx hb dX9_init_163 rfl (lv_at hl 0 rfl) ?_
  refine lv_bipush (v := 6) hx hb dX9_init_164 (by decide) ?_
  refine mi_step (n := 27) hC hK hS hWI 27 (by decide) (by decide) (by decide) (fun j a b_ => ?_) (Or.inr ⟨rfl, rfl, rfl⟩) fl_X9_71 rfl rfl hnm (by show 0 + 1 + 1 + 1 + 1 + 1 + 1 + 1 + 1 + 1 + 1 + 1 + 1 + 1 + 1 + 1 + 1 + 1 + 1 + 1 + 1 + 1 ≤ 28; omega) (by show 0 + 64 + 64 + 3 + 16 + 16 + 16 + 10 + 30 + 30 + 30 + 30 + 6 + 6 + 6 + 6 + 6 + 6 + 6 + 6 + 6 + 6 ≤ 5009; omega) dX9_init_166 dX9_init_168 (fun ma H locs hWI hS => ?_)
  · omega
  refine lv_aload_n hx hb dX9_init_171 rfl (lv_at hl 0 rfl) ?_
  refine lv_bipush (v := 6) hx hb dX9_init_172 (by decide) ?_
  refine mi_step (n := 28) hC hK hS hWI 32 (by decide) (by decide) (by decide) (fun j a b_ => ?_) (Or.inr ⟨rfl, rfl, rfl⟩) fl_X9_74 rfl rfl hnm (by show 0 + 1 + 1 + 1 + 1 + 1 + 1 + 1 + 1 + 1 + 1 + 1 + 1 + 1 + 1 + 1 + 1 + 1 + 1 + 1 + 1 + 1 + 1 ≤ 28; omega) (by show 0 + 64 + 64 + 3 + 16 + 16 + 16 + 10 + 30 + 30 + 30 + 30 + 6 + 6 + 6 + 6 + 6 + 6 + 6 + 6 + 6 + 6 + 6 ≤ 5009; omega) dX9_init_174 dX9_init_176 (fun ma H locs hWI hS => ?_)
  · have : j = 28 ∨ j = 29 ∨ j = 30 ∨ j = 31 := by omega
    rcases this with rfl | rfl | rfl | rfl <;> rfl
  refine lv_aload_n hx hb dX9_init_179 rfl (lv_at hl 0 rfl) ?_
  refine lv_bipush (v := 6) hx hb dX9_init_180 (by decide) ?_
  refine mi_step (n := 33) hC hK hS hWI 33 (by decide) (by decide) (by decide) (fun j a b_ => ?_) (Or.inr ⟨rfl, rfl, rfl⟩) fl_X9_77 rfl rfl hnm (by show 0 + 1 + 1 + 1 + 1 + 1 + 1 + 1 + 1 + 1 + 1 + 1 + 1 + 1 + 1 + 1 + 1 + 1 + 1 + 1 + 1 + 1 + 1 + 1 ≤ 28; omega) (by show 0 + 64 + 64 + 3 + 16 + 16 + 16 + 10 + 30 + 30 + 30 + 30 + 6 + 6 + 6 + 6 + 6 + 6 + 6 + 6 + 6 + 6 + 6 + 6 ≤ 5009; omega) dX9_init_182 dX9_init_184 (fun ma H locs hWI hS => ?_)
  · omega
  refine lv_aload_n hx hb dX9_init_187 rfl (lv_at hl 0 rfl) ?_
  refine lv_sipush (v := 1500) hx hb dX9_init_188 (by decide) ?_
  refine mi_step (n := 34) hC hK hS hWI 35 (by decide) (by decide) (by decide) (fun j a b_ => ?_) (Or.inr ⟨rfl, rfl, rfl⟩) fl_X9_80 rfl rfl hnm (by show 0 + 1 + 1 + 1 + 1 + 1 + 1 + 1 + 1 + 1 + 1 + 1 + 1 + 1 + 1 + 1 + 1 + 1 + 1 + 1 + 1 + 1 + 1 + 1 + 1 ≤ 28; omega) (by show 0 + 64 + 64 + 3 + 16 + 16 + 16 + 10 + 30 + 30 + 30 + 30 + 6 + 6 + 6 + 6 + 6 + 6 + 6 + 6 + 6 + 6 + 6 + 6 + 1500 ≤ 5009; omega) dX9_init_191 dX9_init_193 (fun ma H locs hWI hS => ?_)
  · have : j = 34 := by omega
    subst this; rfl
  refine lv_aload_n hx hb dX9_init_196 rfl (lv_at hl 0 rfl) ?_
  refine lv_sipush (v := 1500) hx hb dX9_init_197 (by decide) ?_
  refine mi_step (n := 36) hC hK hS hWI 36 (by decide) (by decide) (by decide) (fun j a b_ => ?_) (Or.inr ⟨rfl, rfl, rfl⟩) fl_X9_83 rfl rfl hnm (by show 0 + 1 + 1 + 1 + 1 + 1 + 1 + 1 + 1 + 1 + 1 + 1 + 1 + 1 + 1 + 1 + 1 + 1 + 1 + 1 + 1 + 1 + 1 + 1 + 1 + 1 ≤ 28; omega) (by show 0 + 64 + 64 + 3 + 16 + 16 + 16 + 10 + 30 + 30 + 30 + 30 + 6 + 6 + 6 + 6 + 6 + 6 + 6 + 6 + 6 + 6 + 6 + 6 + 1500 + 1500 ≤ 5009; omega) dX9_init_200 dX9_init_202 (fun ma H locs hWI hS => ?_)
  · omega
  refine lv_aload_n hx hb dX9_init_205 rfl (lv_at hl 0 rfl) ?_
  refine lv_sipush (v := 1500) hx hb dX9_init_206 (by decide) ?_
  refine mi_step (n := 37) hC hK hS hWI 37 (by decide) (by decide) (by decide) (fun j a b_ => ?_) (Or.inr ⟨rfl, rfl, rfl⟩) fl_X9_86 rfl rfl hnm (by show 0 + 1 + 1 + 1 + 1 + 1 + 1 + 1 + 1 + 1 + 1 + 1 + 1 + 1 + 1 + 1 + 1 + 1 + 1 + 1 + 1 + 1 + 1 + 1 + 1 + 1 + 1 ≤ 28; omega) (by show 0 + 64 + 64 + 3 + 16 + 16 + 16 + 10 + 30 + 30 + 30 + 30 + 6 + 6 + 6 + 6 + 6 + 6 + 6 + 6 + 6 + 6 + 6 + 6 + 1500 + 1500 + 1500 ≤ 5009; omega) dX9_init_209 dX9_init_211 (fun ma H locs hWI hS => ?_)
  · omega
  refine lv_aload_n hx hb dX9_init_214 rfl (lv_at hl 0 rfl) ?_
  refine lv_bipush (v := 64) hx hb dX9_init_215 (by decide) ?_
  refine mi_step (n := 38) hC hK hS hWI 38 (by decide) (by decide) (by decide) (fun j a b_ => ?_) (Or.inr ⟨rfl, rfl, rfl⟩) fl_X9_89 rfl rfl hnm (by show 0 + 1 + 1 + 1 + 1 + 1 + 1 + 1 + 1 + 1 + 1 + 1 + 1 + 1 + 1 + 1 + 1 + 1 + 1 + 1 + 1 + 1 + 1 + 1 + 1 + 1 + 1 + 1 ≤ 28; omega) (by show 0 + 64 + 64 + 3 + 16 + 16 + 16 + 10 + 30 + 30 + 30 + 30 + 6 + 6 + 6 + 6 + 6 + 6 + 6 + 6 + 6 + 6 + 6 + 6 + 1500 + 1500 + 1500 + 64 ≤ 5009; omega) dX9_init_217 dX9_init_219 (fun ma H locs hWI hS => ?_)
  · omega
  refine lv_aload_n hx hb dX9_init_222 rfl (lv_at hl 0 rfl) ?_
  refine lv_bipush (v := 64) hx hb dX9_init_223 (by decide) ?_
  refine mi_step (n := 39) hC hK hS hWI 39 (by decide) (by decide) (by decide) (fun j a b_ => ?_) (Or.inr ⟨rfl, rfl, rfl⟩) fl_X9_92 rfl rfl hnm (by show 0 + 1 + 1 + 1 + 1 + 1 + 1 + 1 + 1 + 1 + 1 + 1 + 1 + 1 + 1 + 1 + 1 + 1 + 1 + 1 + 1 + 1 + 1 + 1 + 1 + 1 + 1 + 1 + 1 ≤ 28; omega) (by show 0 + 64 + 64 + 3 + 16 + 16 + 16 + 10 + 30 + 30 + 30 + 30 + 6 + 6 + 6 + 6 + 6 + 6 + 6 + 6 + 6 + 6 + 6 + 6 + 1500 + 1500 + 1500 + 64 + 64 ≤ 5009; omega) dX9_init_225 dX9_init_227 (fun ma H locs hWI hS => ?_)
  · omega
  have hWI : WI G q N ma 40 H := by
    obtain ⟨w1, w2, w3, w4, w5⟩ := hWI
    exact ⟨w1, w2, w3, w4, w5⟩
  obtain ⟨e1, e2, e3⟩ := hWI.end
  subst hQ
  exact rt_qv (S := Nat → Nat) (fun k => if k = 0 then q else ma k) hx hb hr hlk hS ⟨rfl, e1, e3⟩ (fun t ht _ => by show WM G _ M00 t.heap; rw [ht]; exact e2) (by show 0 + 1 + 1 + 1 + 1 + 1 + 1 + 1 + 1 + 1 + 1 + 1 + 1 + 1 + 1 + 1 + 1 + 1 + 1 + 1 + 1 + 1 + 1 + 1 + 1 + 1 + 1 + 1 + 1 ≤ 28; omega) (by show 0 + 64 + 64 + 3 + 16 + 16 + 16 + 10 + 30 + 30 + 30 + 30 + 6 + 6 + 6 + 6 + 6 + 6 + 6 + 6 + 6 + 6 + 6 + 6 + 1500 + 1500 + 1500 + 64 + 64 ≤ 5009; omega) dX9_init_230
