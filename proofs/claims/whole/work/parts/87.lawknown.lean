/-! WHAT IS KNOWN AT THE LAW'S ENTRY -/
theorem tw {args : Array Value} {s : State} (hts : ∀ w ∈ lw_tbl, w.before args s = true) {w : Cond} (i : Nat) (h : lw_tbl[i]? = some w) : w.before args s = true := hts w (List.mem_of_getElem? h)
theorem arr_prim {args : Array Value} {s : State} {ty : FieldType} (h : (Cond.arrayClass ty).before args s = true) (hy : ∀ C, ty ≠ .object C) : ∃ cA, ArrOfT s cA ty ∧ va_RA s cA ty := by
  obtain ⟨cA, kA, comp, h1, h2, h3⟩ := Cond.arrayClass_spec (args := args) (first := s) (o := none) (s := s) (idx := []) h
  refine ⟨cA, fun n z => ⟨fun k h => (by cases h), kA, h2, comp, h3⟩, ?_⟩
  cases ty with
  | object C => exact absurd rfl (hy C)
  | _ => exact h1
theorem arr_obj {args : Array Value} {s : State} {C : String} (h : (Cond.arrayOver (.object C)).before args s = true) : ∃ cA, ArrOfT s cA (.object C) ∧ va_RA s cA (.object C) := by
  obtain ⟨comp, cA, kA, h1, h2, h3, h4, h5⟩ := Cond.arrayOver_spec (args := args) (first := s) (o := none) (s := s) (idx := []) h
  exact ⟨cA, fun n z => ⟨fun k h => (by cases h), kA, h3, comp, h4⟩, kA, comp, h3, h4, h1, h5⟩
theorem str_at {args : Array Value} {s : State} {own tx : String} {k : Nat} (h1 : (Cond.stringRef own k tx).before args s = true) (h2 : (Cond.exactly (.string own k) "java/lang/String").before args s = true) : ∃ a, vk_R own k tx a s := by
  obtain ⟨a, c, cell, kk, q1, -⟩ := Cond.exactly_spec (args := args) (first := s) (o := none) (s := s) (idx := []) (t := .string own k) (cls := "java/lang/String") h2
  exact ⟨a, vk_R.of h1 q1⟩
theorem ac_J : Cond.arrayClass FieldType.long ∈ BIG := bwi 1725 (by decide +kernel) (by decide)
set_option maxHeartbeats 4000000 in
set_option maxRecDepth 100000 in
theorem law_K {b : Nat} {s : State} (hts : ∀ w ∈ lw_tbl, w.before #[Value.ref b] s = true) : ∃ G : gG, gK G s := by
  have hB : ∀ w ∈ BIG, w.before #[Value.ref b] s = true := fun w hw => hts w (BIG_in hw)
  obtain ⟨c0, i0, hk0⟩ := u_known (C := RX0) (T := TX0) (N := 8) (n := 8) hB lay_X0 (hB _ is_X0)
  obtain ⟨c1, i1, hk1⟩ := u_known (C := RX1) (T := TX1) (N := 3) (n := 3) hB lay_X1 (hB _ is_X1)
  obtain ⟨c2, i2, hk2⟩ := u_known (C := RX2) (T := TX2) (N := 4) (n := 4) hB lay_X2 (hB _ is_X2)
  obtain ⟨c3, i3, hk3⟩ := u_known (C := RX3) (T := TX3) (N := 2) (n := 2) hB lay_X3 (hB _ is_X3)
  obtain ⟨c4, i4, hk4⟩ := u_known (C := RX4) (T := TX4) (N := 3) (n := 3) hB lay_X4 (hB _ is_X4)
  obtain ⟨c5, i5, hk5⟩ := u_known (C := RX5) (T := TX5) (N := 9) (n := 9) hB lay_X5 (hB _ is_X5)
  obtain ⟨c6, i6, hk6⟩ := u_known (C := RX6) (T := TX6) (N := 3) (n := 3) hB lay_X6 (hB _ is_X6)
  obtain ⟨c7, i7, hk7⟩ := u_known (C := RX7) (T := TX7) (N := 5) (n := 5) hB lay_X7 (hB _ is_X7)
  obtain ⟨c8, i8, hk8⟩ := u_known (C := RX8) (T := TX8) (N := 6) (n := 6) hB lay_X8 (hB _ is_X8)
  obtain ⟨c9, i9, hk9⟩ := u_known (C := RX9) (T := TX9) (N := 40) (n := 40) hB lay_X9 (hB _ is_X9)
  obtain ⟨c10, i10, hk10⟩ := u_known (C := RJx4a65c) (T := TJx4a65c) (N := 3) (n := 3) hB lay_Jx4a65c (hB _ is_Jx4a65c)
  obtain ⟨dC, dI, hKc⟩ : ∃ (dC : Nat → ClassId) (dI : Nat → Nat → Nat), ∀ (k : Nat) (q : vw_C), gCl[k]? = some q → u_Kn s q.1 q.2.1 q.2.2 (dC k) (dI k) := by
    refine ⟨fun k => [c0, c1, c2, c3, c4, c5, c6, c7, c8, c9, c10].getD k c0, fun k => [i0, i1, i2, i3, i4, i5, i6, i7, i8, i9, i10].getD k i0, ?_⟩
    intro k q hq
    match k, hq with
    | 0, hq => cases hq; exact hk0
    | 1, hq => cases hq; exact hk1
    | 2, hq => cases hq; exact hk2
    | 3, hq => cases hq; exact hk3
    | 4, hq => cases hq; exact hk4
    | 5, hq => cases hq; exact hk5
    | 6, hq => cases hq; exact hk6
    | 7, hq => cases hq; exact hk7
    | 8, hq => cases hq; exact hk8
    | 9, hq => cases hq; exact hk9
    | 10, hq => cases hq; exact hk10
    | k + 11, hq => simp [gCl] at hq
  obtain ⟨aI, hI⟩ := arr_prim (hB _ ac_I) (fun C h => by cases h)
  obtain ⟨aZ, hZ⟩ := arr_prim (hB _ ac_Z) (fun C h => by cases h)
  obtain ⟨aJ, hJ⟩ := arr_prim (hB _ ac_J) (fun C h => by cases h)
  obtain ⟨aO, hO⟩ := arr_obj (C := "java/lang/Object") (tw hts 494 (by decide +kernel))
  refine ⟨((dC, dI), aI, aZ, aO, aJ), ⟨hKc, fun k q hq => ?_⟩, ⟨va_Nw.of rfl (tw hts 1746 (by decide +kernel)), va_Nw.of rfl (tw hts 1745 (by decide +kernel)), va_Nw.of rfl (tw hts 1748 (by decide +kernel)), va_Nw.of rfl (tw hts 1747 (by decide +kernel)), va_Nw.of rfl (tw hts 1742 (by decide +kernel)), va_Nw.of rfl (tw hts 1743 (by decide +kernel))⟩, ?_, ?_⟩
  · match k, hq with
    | 0, hq => cases hq; exact hI
    | 1, hq => cases hq; exact hZ
    | 2, hq => cases hq; exact hO
    | 3, hq => cases hq; exact hJ
    | k + 4, hq => simp [gTys] at hq
  · exact va_Nw.of rfl (tw hts 109 (by decide +kernel))
  · exact va_Nw.of rfl (tw hts 115 (by decide +kernel))
set_option maxHeartbeats 4000000 in
set_option maxRecDepth 100000 in
theorem law_T {b : Nat} {s : State} {A : Nat → Prop} (hts : ∀ w ∈ lw_tbl, w.before #[Value.ref b] s = true) (hgv : (Jvm.Cond.and given_1 narrow_1).before #[Value.ref b] s = true) (hA : ∀ a : Nat, a < s.heap.size → ¬ A a) : gTh A s := by
  have hs := flat_of_before _ hgv
  refine ⟨fun w hw => ?_, fun q hq => ?_, fun q hq => ?_, ?_, ?_⟩
  · simp only [xDcl, List.mem_cons, List.not_mem_nil, or_false] at hw
    rcases hw with rfl | rfl | rfl
    · exact va_Nw.of rfl (tw hts 254 (by decide +kernel))
    · exact va_Nw.of rfl (tw hts 256 (by decide +kernel))
    · exact va_Nw.of rfl (tw hts 258 (by decide +kernel))
  · simp only [xCas, List.mem_cons, List.not_mem_nil, or_false] at hq
    rcases hq with rfl | rfl | rfl
    · exact va_Nw.of rfl (tw hts 252 (by decide +kernel))
    · exact va_Nw.of rfl (tw hts 358 (by decide +kernel))
    · exact va_Nw.of rfl (tw hts 563 (by decide +kernel))
  · simp only [xStr, List.mem_cons, List.not_mem_nil, or_false] at hq
    rcases hq with rfl | rfl | rfl | rfl | rfl | rfl | rfl | rfl | rfl | rfl | rfl | rfl | rfl | rfl
    · exact str_at (own := RX8) (k := 289) (tw hts 291 (by decide +kernel)) (hs _ (by decide +kernel))
    · exact str_at (own := RX8) (k := 62) (tw hts 365 (by decide +kernel)) (hs _ (by decide +kernel))
    · exact str_at (own := RX8) (k := 85) (tw hts 419 (by decide +kernel)) (hs _ (by decide +kernel))
    · exact str_at (own := RX8) (k := 106) (tw hts 514 (by decide +kernel)) (hs _ (by decide +kernel))
    · exact str_at (own := RX8) (k := 294) (tw hts 570 (by decide +kernel)) (hs _ (by decide +kernel))
    · exact str_at (own := RX8) (k := 124) (tw hts 585 (by decide +kernel)) (hs _ (by decide +kernel))
    · exact str_at (own := RX8) (k := 129) (tw hts 593 (by decide +kernel)) (hs _ (by decide +kernel))
    · exact str_at (own := RX8) (k := 143) (tw hts 622 (by decide +kernel)) (hs _ (by decide +kernel))
    · exact str_at (own := RX8) (k := 162) (tw hts 663 (by decide +kernel)) (hs _ (by decide +kernel))
    · exact str_at (own := RX8) (k := 167) (tw hts 671 (by decide +kernel)) (hs _ (by decide +kernel))
    · exact str_at (own := RX8) (k := 194) (tw hts 739 (by decide +kernel)) (hs _ (by decide +kernel))
    · exact str_at (own := RX8) (k := 204) (tw hts 797 (by decide +kernel)) (hs _ (by decide +kernel))
    · exact str_at (own := RX8) (k := 220) (tw hts 816 (by decide +kernel)) (hs _ (by decide +kernel))
    · exact str_at (own := RX8) (k := 228) (tw hts 860 (by decide +kernel)) (hs _ (by decide +kernel))
  · exact vx_Zqof (tw hts 277 (by decide +kernel)) (tw hts 74 (by decide +kernel)) (hs _ (by decide +kernel)) hA
  · exact vx_Zqof (tw hts 279 (by decide +kernel)) (tw hts 74 (by decide +kernel)) (hs _ (by decide +kernel)) hA
set_option maxHeartbeats 4000000 in
set_option maxRecDepth 100000 in
theorem law_X {b : Nat} {s : State} {A : Nat → Prop} (hts : ∀ w ∈ lw_tbl, w.before #[Value.ref b] s = true) (hgv : (Jvm.Cond.and given_1 narrow_1).before #[Value.ref b] s = true) (hA : ∀ a : Nat, a < s.heap.size → ¬ A a) : ∃ (G : gG) (d0 mi : Nat), gX G d0 mi A s := by
  have hs := flat_of_before _ hgv
  obtain ⟨G, hK⟩ := law_K hts
  obtain ⟨mi, hmi⟩ := va_Mi.of (C := "[Ljava/lang/Object;") (hs _ (by decide +kernel))
  have hlen : (Term.length (.static "java/util/ArrayList" "DEFAULTCAPACITY_EMPTY_ELEMENTDATA" "[Ljava/lang/Object;")).eval #[Value.ref b] s none [] s = some (.int 0) := va_eqt (hs _ (by decide +kernel))
  obtain ⟨d0, hv, hT⟩ := va_Tof (A := A) (tm := .static "java/util/ArrayList" "DEFAULTCAPACITY_EMPTY_ELEMENTDATA" "[Ljava/lang/Object;") (ty := .object "java/lang/Object") (N := 0) (f := fun _ => .null) (by decide) (hs _ (by decide +kernel)) hlen (fun j hj => absurd hj (Nat.not_lt_zero _)) hA
  exact ⟨G, d0, mi, hK, ⟨hmi, va_Dc.of (tw hts 1754 (by decide +kernel)), va_AO.of (tw hts 494 (by decide +kernel))⟩, va_Zref (tw hts 142 (by decide +kernel)) (tw hts 72 (by decide +kernel)) hv hA, hT⟩
theorem law_N {b : Nat} {s : State} (hgv : (Jvm.Cond.and given_1 narrow_1).before #[Value.ref b] s = true) : gNc s := by
  have hs := flat_of_before _ hgv
  exact ⟨va_Nc.of (hs _ (by decide +kernel)), va_Nc.of (hs _ (by decide +kernel)), va_Nc.of (hs _ (by decide +kernel))⟩
