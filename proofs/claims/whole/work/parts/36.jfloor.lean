/-! calls and ends of the class's methods -/
section JCL
variable {p : Program} {l : Launch} {e : Env} {R : Room} {s : State} {m : MethodId} {args : Array Value} {below : List Frame} {meth : Method} {c : Code} {H : Heap} {locs : List Loc} {cells slots : Nat} {Q : State → Prop}
variable {pc : Nat} {ls : Array Slot} {rest st0 : List Value} {a : Array Value} {mc ms : Nat} {G : gG} {d0 : Nat} {Rf : Nat → Prop} {ja : Nat → Nat → Nat} {M' : MS} {E' : ES}
theorem top_r {x y : Nat} (h : x = y) (k : W p l e R s m args below meth c H locs cells slots Q (F0 m pc ls (.ref y :: rest))) : W p l e R s m args below meth c H locs cells slots Q (F0 m pc ls (.ref x :: rest)) := h ▸ k
theorem top_v {x y : Value} (h : x = y) (k : W p l e R s m args below meth c H locs cells slots Q (F0 m pc ls (y :: rest))) : W p l e R s m args below meth c H locs cells slots Q (F0 m pc ls (x :: rest)) := h ▸ k
theorem top_l {x y : Int64} (h : x = y) (k : W p l e R s m args below meth c H locs cells slots Q (F0 m pc ls (.long y :: rest))) : W p l e R s m args below meth c H locs cells slots Q (F0 m pc ls (.long x :: rest)) := h ▸ k
theorem jcl_v {P : Unit → Prop} (hr : va_Run p l e R s m args below meth c H locs cells slots mc ms (F0 m pc ls st0) rest (va_Qv (S := Unit) P (fun _ t => WJ G d0 Rf ja M' E' t.heap) (jA Rf) a) (jA Rf)) (hS : va_S (jA Rf) s.heap H locs)
    (kk : ∀ (H1 : Heap) (locs1 : List Loc), WJ G d0 Rf ja M' E' H1 → va_S (jA Rf) s.heap H1 locs1 → W p l e R s m args below meth c H1 locs1 (cells + mc) (slots + ms) Q (F0 m (pc + 3) ls rest)) : W p l e R s m args below meth c H locs cells slots Q (F0 m pc ls st0) :=
  va_callv hr hS (fun _ _ h => h) (fun _ h => h) (fun _ t H1 locs1 ht _ _ hB _ _ hS1 => kk H1 locs1 (by rw [← ht]; exact hB) hS1)
theorem jcl_vE {P : ES → Prop} (hr : va_Run p l e R s m args below meth c H locs cells slots mc ms (F0 m pc ls st0) rest (va_Qv (S := ES) P (fun E2 t => WJ G d0 Rf ja M' E2 t.heap) (jA Rf) a) (jA Rf)) (hS : va_S (jA Rf) s.heap H locs)
    (kk : ∀ (E2 : ES), P E2 → ∀ (H1 : Heap) (locs1 : List Loc), WJ G d0 Rf ja M' E2 H1 → va_S (jA Rf) s.heap H1 locs1 → W p l e R s m args below meth c H1 locs1 (cells + mc) (slots + ms) Q (F0 m (pc + 3) ls rest)) : W p l e R s m args below meth c H locs cells slots Q (F0 m pc ls st0) :=
  va_callv hr hS (fun _ _ h => h) (fun _ h => h) (fun u t H1 locs1 ht _ hp hB _ _ hS1 => kk u hp H1 locs1 (by rw [← ht]; exact hB) hS1)
theorem jn_7 {M : MS} {E : ES} {o : Nat} (h : o < 10) : jn M E (7 + o) = nL M o := by
  rw [Nat.add_comm]
  show (if o + 7 < 17 then nL M (o + 7 - 7) else eN E (o + 7)) = _
  rw [if_pos (by omega), Nat.add_sub_cancel]
theorem jn_17 {M : MS} {E : ES} (s_ : Nat) : jn M E (17 + s_) = eN E (17 + s_) := by
  rw [show 17 + s_ = (10 + s_) + 7 by omega]
  show (if (10 + s_) + 7 < 17 then nL M ((10 + s_) + 7 - 7) else eN E ((10 + s_) + 7)) = _
  rw [if_neg (by omega)]
theorem je_7 {E : ES} {o j : Nat} (h : o < 10) : je E (7 + o) j = 3 * o + j := by
  rw [Nat.add_comm]
  show (if o + 7 < 17 then 3 * (o + 7 - 7) + j else eL E (o + 7) j) = _
  rw [if_pos (by omega), Nat.add_sub_cancel]
theorem je_17 {E : ES} (s_ j : Nat) : je E (17 + s_) j = eL E (17 + s_) j := by
  rw [show 17 + s_ = (10 + s_) + 7 by omega]
  show (if (10 + s_) + 7 < 17 then 3 * ((10 + s_) + 7 - 7) + j else eL E ((10 + s_) + 7) j) = _
  rw [if_neg (by omega)]
theorem jk_7 (i : Nat) : jk (7 + i) = 2 := by rw [Nat.add_comm]; rfl
theorem jk_17 (i : Nat) : jk (17 + i) = 2 := by rw [show 17 + i = (10 + i) + 7 by omega]; rfl
theorem jc_7 {ja : Nat → Nat → Nat} {E : ES} {o j : Nat} (h : o < 10) : jc ja E (7 + o) j = ja 2 (3 * o + j) := by unfold jc; rw [je_7 h, jk_7]
theorem jc_17 {ja : Nat → Nat → Nat} {E : ES} (s_ j : Nat) : jc ja E (17 + s_) j = ja 2 (eL E (17 + s_) j) := by unfold jc; rw [je_17, jk_17]
end JCL
/-! THE FLOOR -/
theorem bsx {p : Nat → Bool} {j : Nat} (hj : j < 64) : bs p &&& bs (one_ (nI j)) = 0 ↔ p j = false := by rw [bs_and]; exact bs_at hj
theorem bsxy {p q : Nat → Bool} {j : Nat} (hj : j < 64) : bs p &&& (bs q &&& bs (one_ (nI j))) = 0 ↔ (p j && q j) = false := by
  rw [bs_and, bs_and]
  have h := bs_at (p := fun i => p i && q i) hj
  have e : bs (fun i => p i && (q i && one_ (nI j) i)) = bs (fun i => (p i && q i) && one_ (nI j) i) := bs_cg (fun i _ => (Bool.and_assoc _ _ _).symm)
  rw [e]
  exact h
theorem bz1 {b : Bool} (h : ¬ b = false) : 1 = bI b := by cases b with
  | true => rfl
  | false => exact absurd rfl h
theorem bz0 {b : Bool} (h : b = false) : 0 = bI b := by rw [h]; rfl
theorem bs_setb (f : Nat → Int32) {j : Nat} (hj : j < 64) {v : Int32} (hv : ¬ v = 0) : bs (fun q => decide (¬ f q = 0)) ||| bs (one_ (nI j)) = bs (fun q => decide (¬ upd f j v q = 0)) := by
  rw [bs_or]
  refine bs_cg (fun i hi => ?_)
  unfold one_
  by_cases e : i = j
  · subst e
    rw [upd_s, decide_eq_true (rfl : nI i = nI i), decide_eq_true hv, Bool.or_true]
  · rw [upd_n _ _ e, decide_eq_false (fun q => e ((nI_eq (by omega) (by omega)).mp q)), Bool.or_false]
theorem bs_clrb (f : Nat → Int32) {j : Nat} (hj : j < 64) : bs (fun q => decide (¬ f q = 0)) &&& (bs (one_ (nI j)) ^^^ (-1)) = bs (fun q => decide (¬ upd f j 0 q = 0)) := by
  rw [bs_not, bs_and]
  refine bs_cg (fun i hi => ?_)
  unfold one_
  by_cases e : i = j
  · subst e
    rw [upd_s, decide_eq_true (rfl : nI i = nI i)]
    simp
  · rw [upd_n _ _ e, decide_eq_false (fun q => e ((nI_eq (by omega) (by omega)).mp q))]
    simp
theorem bs_setd (f : Nat → Bool) {j : Nat} (hj : j < 64) : bs f ||| bs (one_ (nI j)) = bs (fun q => if q = j then true else f q) := by
  rw [bs_or]
  refine bs_cg (fun i hi => ?_)
  unfold one_
  by_cases e : i = j
  · subst e; rw [if_pos rfl, decide_eq_true (rfl : nI i = nI i), Bool.or_true]
  · rw [if_neg e, decide_eq_false (fun q => e ((nI_eq (by omega) (by omega)).mp q)), Bool.or_false]
theorem bs_clrd (f : Nat → Bool) {j : Nat} (hj : j < 64) : bs f &&& (bs (one_ (nI j)) ^^^ (-1)) = bs (fun q => if q = j then false else f q) := by
  rw [bs_not, bs_and]
  refine bs_cg (fun i hi => ?_)
  unfold one_
  by_cases e : i = j
  · subst e; rw [if_pos rfl, decide_eq_true (rfl : nI i = nI i)]; simp
  · rw [if_neg e, decide_eq_false (fun q => e ((nI_eq (by omega) (by omega)).mp q))]; simp
def opE (M : MS) (E : ES) (q : Nat) : Bool := decide (M 2 q = 0) && (decide (M 3 q = 0) && !eD E q)
def frE (M : MS) (E : ES) (x : Int32) (q : Nat) : Bool := opE M E q && !one_ x q
theorem bs_opE (M : MS) (E : ES) : ((bs (fun q => decide (¬ M 2 q = 0)) ||| bs (fun q => decide (¬ M 3 q = 0))) ||| bs (eD E)) ^^^ (-1) = bs (opE M E) := by
  rw [bs_or, bs_or, bs_not]
  refine bs_cg (fun i hi => ?_)
  unfold opE
  by_cases a : M 2 i = 0 <;> by_cases b : M 3 i = 0 <;> simp [a, b]
theorem bs_frE (M : MS) (E : ES) (x : Int32) : bs (opE M E) &&& (bs (one_ x) ^^^ (-1)) = bs (frE M E x) := by
  rw [bs_not, bs_and]; rfl
def opO (M : MS) (E : ES) (o : Option Nat) : Bool := match o with
  | none => false
  | some j => opE M E j
theorem bsy {M : MS} {E : ES} {o : Option Nat} (ho : ∀ j, o = some j → j < 64) : bs (opE M E) &&& bs (one_ (oI o)) = 0 ↔ opO M E o = false := by
  cases o with
  | none =>
    rw [oI_none, bs_none (x := -1) (fun i hi => nI_m1 (by omega))]
    simp only [opO, iff_true]
    rw [bs_0, bs_and, bs_eq]
    intro i hi
    simp
  | some j => exact bsx (ho j rfl)
theorem dS_closed {O : Nat → Bool} {t c : Nat} (h : O c = false) : dS O t c = none := dS_none.mpr (fun k q => by rw [wk_O q] at h; cases h)
def nxI (o : Option (Nat × Nat)) : Int32 := match o with
  | none => -1
  | some p => nI p.1
def nxL (o : Option (Nat × Nat)) : Int32 := match o with
  | none => 64
  | some p => nI p.2
noncomputable def nxV (M : MS) (E : ES) (x : Int32) (g f : Nat) : Option Nat := (nrst (dS (frE M E x) g) f).map (fun q => q.1)
set_option maxHeartbeats 4000000 in
set_option maxRecDepth 100000 in
theorem cJ_X1_setOf (l : Launch) (x : Int32) : Met l yX1_setOf (wB yX1_setOf cX1_setOf 1 (some .long)) (rmL 0 0 0) (va_Pc [.int x] (fun _ => True)) (k2_QcV (.long (bs (one_ x)))) 0 0 fN := by
  refine st_N (own := RX1) (by decide +kernel) rfl (Nat.le_of_ble_eq_true rfl) ?_
  intro p e s m below meth c ls args Q hQ hC hr hlk hnm hl hP
  have hx := hC.1
  have hb := hC.2.1
  have hl : lv_has ls 1 [(0, .int x)] := hl
  refine lv_iload_n hx hb dX1_setOf_0 rfl (lv_at hl 0 rfl) ?_
  refine lv_if_lt (tgt := 16) hx hb dX1_setOf_1 (by decide) (fun c_1t => ?_) (fun c_1f => ?_)
  · refine lv_lconst (v := 0) hx hb dX1_setOf_16 (by decide) ?_
    subst hQ
    exact rt_l hx hb hr hlk ((bs_none (fun i hi q => nI_pos (n := i) (by omega) (q ▸ c_1t))).symm) dX1_setOf_17
  · refine lv_iload_n hx hb dX1_setOf_4 rfl (lv_at hl 0 rfl) ?_
    refine lv_bipush (v := 64) hx hb dX1_setOf_5 (by decide) ?_
    refine lv_icmp_ge (tgt := 16) hx hb dX1_setOf_7 (by decide) (fun c_2t => ?_) (fun c_2f => ?_)
    · refine lv_lconst (v := 0) hx hb dX1_setOf_16 (by decide) ?_
      subst hQ
      exact rt_l hx hb hr hlk ((bs_none (fun i hi q => nI_ge (a := i) (b := 64) hi (by decide) (q ▸ c_2t))).symm) dX1_setOf_17
    · refine lv_lconst (v := 1) hx hb dX1_setOf_10 (by decide) ?_
      refine lv_iload_n hx hb dX1_setOf_11 rfl (lv_at hl 0 rfl) ?_
      refine lv_lshl hx hb dX1_setOf_12 rfl ?_
      refine lv_goto (tgt := 17) hx hb dX1_setOf_13 (by decide) ?_
      obtain ⟨k, hk, rfl⟩ := inB_of (x := x) (n := 64) (by decide) (by unfold inB; rw [decide_eq_false c_1f]; exact (by rw [decide_eq_false (show ¬ nI 64 ≤ x from c_2f)]; rfl))
      subst hQ
      exact rt_l hx hb hr hlk ((bs_1 hk).trans (bs_one hk).symm) dX1_setOf_17
set_option maxHeartbeats 4000000 in
set_option maxRecDepth 100000 in
theorem cJ_X1_isWall (l : Launch) (G : gG) (d0 mi : Nat) (Rf : Nat → Prop) (ja : Nat → Nat → Nat) (M : MS) (E : ES) (j : Nat) (hj : j < 64) : Met l yX1_isWall (wB yX1_isWall cX1_isWall 2 (some .boolean)) (rmL 1 0 0) (va_Pc [.ref (ja 1 0), .int (nI j)] (jB G d0 mi Rf ja M E)) (k2_QcV (.int (bI (decide (¬ M 2 j = 0))))) 0 0 fN := by
  refine st_N (own := RX1) (by decide +kernel) rfl (Nat.le_of_ble_eq_true rfl) ?_
  intro p e s m below meth c ls args Q hQ hC hr hlk hnm hl hP
  obtain ⟨hW, hX, hRf⟩ := hP
  have hK := hX.1
  have hx := hC.1
  have hb := hC.2.1
  have hl : lv_has ls 2 [(0, .ref (ja 1 0)), (1, .int (nI j))] := hl
  have hS : va_S (jA Rf) s.heap s.heap [] := va_S.rf
  refine lv_aload_n hx hb dX1_isWall_0 rfl (lv_at hl 0 rfl) ?_
  refine r1_get hC hK.1 (hW.ob (show jV M 1 0 from rfl)) lay_X1 rfl 0 (by decide) fl_X1_11 (fun x hx => hx) (v := .long (bs (fun q => decide (¬ M 2 q = 0)))) rfl dX1_isWall_1 ?_
  refine lv_iload_n hx hb dX1_isWall_4 rfl (lv_at hl 1 rfl) ?_
  refine cl_p (run_S hC (cJ_X1_setOf l (nI j)) (As := [.int (nI j)]) (rest := [.long (bs (fun q => decide (¬ M 2 q = 0)))]) rfl rfl ml_X1_21 sm_X1_setOf ini_X1 cd_X1_setOf na_X1_setOf tB_blind (fun _ _ _ => trivial) hl.1 (Nat.le_of_ble_eq_true rfl) ⟨Nat.le_of_ble_eq_true rfl, Nat.le_of_ble_eq_true rfl⟩ ⟨Nat.le_refl _, Nat.le_refl _⟩ rfl dX1_isWall_5) ?_
  refine lv_land hx hb dX1_isWall_8 ?_
  refine lv_lconst (v := 0) hx hb dX1_isWall_9 (by decide) ?_
  refine W.lcmp hx hb dX1_isWall_10 ?_
  refine lv_if_eq (tgt := 18) hx hb dX1_isWall_11 (by decide) (fun c_1t => ?_) (fun c_1f => ?_)
  · have c_1t : (bs (fun q => decide (¬ M 2 q = 0))) &&& (bs (one_ (nI j))) = 0 := (lcmp_e _ _).mp c_1t
    refine lv_iconst (v := 0) hx hb dX1_isWall_18 (by decide) ?_
    subst hQ
    exact rt_z hx hb hr hlk (bz0 ((bsx hj).mp c_1t)) dX1_isWall_19
  · have c_1f : ¬ ((bs (fun q => decide (¬ M 2 q = 0))) &&& (bs (one_ (nI j))) = 0) := fun q => c_1f ((lcmp_e _ _).mpr q)
    refine lv_iconst (v := 1) hx hb dX1_isWall_14 (by decide) ?_
    refine lv_goto (tgt := 19) hx hb dX1_isWall_15 (by decide) ?_
    subst hQ
    exact rt_z hx hb hr hlk (bz1 (fun q => c_1f ((bsx hj).mpr q))) dX1_isWall_19
set_option maxHeartbeats 4000000 in
set_option maxRecDepth 100000 in
theorem cJ_X1_isClosed (l : Launch) (G : gG) (d0 mi : Nat) (Rf : Nat → Prop) (ja : Nat → Nat → Nat) (M : MS) (E : ES) (j : Nat) (hj : j < 64) : Met l yX1_isClosed (wB yX1_isClosed cX1_isClosed 2 (some .boolean)) (rmL 1 0 0) (va_Pc [.ref (ja 1 0), .int (nI j)] (jB G d0 mi Rf ja M E)) (k2_QcV (.int (bI (decide (¬ M 3 j = 0))))) 0 0 fN := by
  refine st_N (own := RX1) (by decide +kernel) rfl (Nat.le_of_ble_eq_true rfl) ?_
  intro p e s m below meth c ls args Q hQ hC hr hlk hnm hl hP
  obtain ⟨hW, hX, hRf⟩ := hP
  have hK := hX.1
  have hx := hC.1
  have hb := hC.2.1
  have hl : lv_has ls 2 [(0, .ref (ja 1 0)), (1, .int (nI j))] := hl
  have hS : va_S (jA Rf) s.heap s.heap [] := va_S.rf
  refine lv_aload_n hx hb dX1_isClosed_0 rfl (lv_at hl 0 rfl) ?_
  refine r1_get hC hK.1 (hW.ob (show jV M 1 0 from rfl)) lay_X1 rfl 1 (by decide) fl_X1_15 (fun x hx => hx) (v := .long (bs (fun q => decide (¬ M 3 q = 0)))) rfl dX1_isClosed_1 ?_
  refine lv_iload_n hx hb dX1_isClosed_4 rfl (lv_at hl 1 rfl) ?_
  refine cl_p (run_S hC (cJ_X1_setOf l (nI j)) (As := [.int (nI j)]) (rest := [.long (bs (fun q => decide (¬ M 3 q = 0)))]) rfl rfl ml_X1_21 sm_X1_setOf ini_X1 cd_X1_setOf na_X1_setOf tB_blind (fun _ _ _ => trivial) hl.1 (Nat.le_of_ble_eq_true rfl) ⟨Nat.le_of_ble_eq_true rfl, Nat.le_of_ble_eq_true rfl⟩ ⟨Nat.le_refl _, Nat.le_refl _⟩ rfl dX1_isClosed_5) ?_
  refine lv_land hx hb dX1_isClosed_8 ?_
  refine lv_lconst (v := 0) hx hb dX1_isClosed_9 (by decide) ?_
  refine W.lcmp hx hb dX1_isClosed_10 ?_
  refine lv_if_eq (tgt := 18) hx hb dX1_isClosed_11 (by decide) (fun c_1t => ?_) (fun c_1f => ?_)
  · have c_1t : (bs (fun q => decide (¬ M 3 q = 0))) &&& (bs (one_ (nI j))) = 0 := (lcmp_e _ _).mp c_1t
    refine lv_iconst (v := 0) hx hb dX1_isClosed_18 (by decide) ?_
    subst hQ
    exact rt_z hx hb hr hlk (bz0 ((bsx hj).mp c_1t)) dX1_isClosed_19
  · have c_1f : ¬ ((bs (fun q => decide (¬ M 3 q = 0))) &&& (bs (one_ (nI j))) = 0) := fun q => c_1f ((lcmp_e _ _).mpr q)
    refine lv_iconst (v := 1) hx hb dX1_isClosed_14 (by decide) ?_
    refine lv_goto (tgt := 19) hx hb dX1_isClosed_15 (by decide) ?_
    subst hQ
    exact rt_z hx hb hr hlk (bz1 (fun q => c_1f ((bsx hj).mpr q))) dX1_isClosed_19
set_option maxHeartbeats 4000000 in
set_option maxRecDepth 100000 in
theorem cJ_X1_buildWall (l : Launch) (G : gG) (d0 mi : Nat) (Rf : Nat → Prop) (ja : Nat → Nat → Nat) (M : MS) (E : ES) (j : Nat) (hj : j < 64) : Met l yX1_buildWall (wB yX1_buildWall cX1_buildWall 2 none) (rmL 1 0 0) (va_Pc [.ref (ja 1 0), .int (nI j)] (jB G d0 mi Rf ja M E)) (va_Qv (S := Unit) (fun _ => True) (fun _ t => WJ G d0 Rf ja (mset M 2 j 1) (E) t.heap) (jA Rf)) 0 0 (jA Rf) := by
  refine st_N (own := RX1) (by decide +kernel) rfl (Nat.le_of_ble_eq_true rfl) ?_
  intro p e s m below meth c ls args Q hQ hC hr hlk hnm hl hP
  obtain ⟨hW, hX, hRf⟩ := hP
  have hK := hX.1
  have hx := hC.1
  have hb := hC.2.1
  have hl : lv_has ls 2 [(0, .ref (ja 1 0)), (1, .int (nI j))] := hl
  obtain ⟨H, locs, hHe, hLe⟩ : ∃ (H : Heap) (locs : List Loc), H = s.heap ∧ locs = [] := ⟨_, _, rfl, rfl⟩
  rw [← hHe] at hW
  have hS : va_S (jA Rf) s.heap H locs := by rw [hHe, hLe]; exact va_S.rf
  suffices hgo : W p l e (rmL 1 0 0) s m args below meth c H locs 0 0 Q (F0 m 0 ls []) by
    rw [hHe, hLe] at hgo
    exact hgo
  clear hHe hLe
  refine lv_aload_n hx hb dX1_buildWall_0 rfl (lv_at hl 0 rfl) ?_
  refine lv_dup hx hb dX1_buildWall_1 rfl ?_
  refine r1_get hC hK.1 (hW.ob (show jV M 1 0 from rfl)) lay_X1 rfl 0 (by decide) fl_X1_11 (fun x hx => hx) (v := .long (bs (fun q => decide (¬ M 2 q = 0)))) rfl dX1_buildWall_2 ?_
  refine lv_iload_n hx hb dX1_buildWall_5 rfl (lv_at hl 1 rfl) ?_
  refine cl_p (run_S hC (cJ_X1_setOf l (nI j)) (As := [.int (nI j)]) (rest := [.long (bs (fun q => decide (¬ M 2 q = 0))), .ref (ja 1 0)]) rfl rfl ml_X1_21 sm_X1_setOf ini_X1 cd_X1_setOf na_X1_setOf tB_blind (fun _ _ _ => trivial) hl.1 (Nat.le_of_ble_eq_true rfl) ⟨Nat.le_of_ble_eq_true rfl, Nat.le_of_ble_eq_true rfl⟩ ⟨Nat.le_refl _, Nat.le_refl _⟩ rfl dX1_buildWall_6) ?_
  refine lv_lor hx hb dX1_buildWall_9 ?_
  refine jp_wl hC hK hW hS (j := j) (v := 1) (bs_setb (M 2) hj (by decide)) fl_X1_11 dX1_buildWall_10 (fun H locs hW hS => ?_)
  subst hQ
  exact rt_qv () hx hb hr hlk hS (trivial) (fun t ht _ => by show WJ G d0 Rf ja _ _ t.heap; rw [ht]; exact hW) (by show 0 ≤ 0; omega) (by show 0 ≤ 0; omega) dX1_buildWall_13
set_option maxHeartbeats 4000000 in
set_option maxRecDepth 100000 in
theorem cJ_X1_markClosed (l : Launch) (G : gG) (d0 mi : Nat) (Rf : Nat → Prop) (ja : Nat → Nat → Nat) (M : MS) (E : ES) (j : Nat) (b : Bool) (hj : j < 64) : Met l yX1_markClosed (wB yX1_markClosed cX1_markClosed 3 none) (rmL 1 0 0) (va_Pc [.ref (ja 1 0), .int (nI j), .int (bI b)] (jB G d0 mi Rf ja M E)) (va_Qv (S := Unit) (fun _ => True) (fun _ t => WJ G d0 Rf ja (mset M 3 j (bI b)) (E) t.heap) (jA Rf)) 0 0 (jA Rf) := by
  refine st_N (own := RX1) (by decide +kernel) rfl (Nat.le_of_ble_eq_true rfl) ?_
  intro p e s m below meth c ls args Q hQ hC hr hlk hnm hl hP
  obtain ⟨hW, hX, hRf⟩ := hP
  have hK := hX.1
  have hx := hC.1
  have hb := hC.2.1
  have hl : lv_has ls 3 [(0, .ref (ja 1 0)), (1, .int (nI j)), (2, .int (bI b))] := hl
  obtain ⟨H, locs, hHe, hLe⟩ : ∃ (H : Heap) (locs : List Loc), H = s.heap ∧ locs = [] := ⟨_, _, rfl, rfl⟩
  rw [← hHe] at hW
  have hS : va_S (jA Rf) s.heap H locs := by rw [hHe, hLe]; exact va_S.rf
  suffices hgo : W p l e (rmL 1 0 0) s m args below meth c H locs 0 0 Q (F0 m 0 ls []) by
    rw [hHe, hLe] at hgo
    exact hgo
  clear hHe hLe
  refine lv_aload_n hx hb dX1_markClosed_0 rfl (lv_at hl 0 rfl) ?_
  refine lv_iload_n hx hb dX1_markClosed_1 rfl (lv_at hl 2 rfl) ?_
  refine lb_eq (tgt := 17) (b := b) hx hb dX1_markClosed_2 (by decide) (fun c_1t => ?_) (fun c_1f => ?_)
  · refine lv_aload_n hx hb dX1_markClosed_17 rfl (lv_at hl 0 rfl) ?_
    refine r1_get hC hK.1 (hW.ob (show jV M 1 0 from rfl)) lay_X1 rfl 1 (by decide) fl_X1_15 (fun x hx => hx) (v := .long (bs (fun q => decide (¬ M 3 q = 0)))) rfl dX1_markClosed_18 ?_
    refine lv_iload_n hx hb dX1_markClosed_21 rfl (lv_at hl 1 rfl) ?_
    refine cl_p (run_S hC (cJ_X1_setOf l (nI j)) (As := [.int (nI j)]) (rest := [.long (bs (fun q => decide (¬ M 3 q = 0))), .ref (ja 1 0)]) rfl rfl ml_X1_21 sm_X1_setOf ini_X1 cd_X1_setOf na_X1_setOf tB_blind (fun _ _ _ => trivial) hl.1 (Nat.le_of_ble_eq_true rfl) ⟨Nat.le_of_ble_eq_true rfl, Nat.le_of_ble_eq_true rfl⟩ ⟨Nat.le_refl _, Nat.le_refl _⟩ rfl dX1_markClosed_22) ?_
    refine lv_ldc2 hx hb hC.2.2.2.1 (hC.2.2.2.2 _ k_X1_25) dX1_markClosed_25 ?_
    refine lv_lxor hx hb dX1_markClosed_28 ?_
    refine lv_land hx hb dX1_markClosed_29 ?_
    refine jp_cl hC hK hW hS (j := j) (v := bI b) (by rw [c_1t]; exact bs_clrb (M 3) hj) fl_X1_15 dX1_markClosed_30 (fun H locs hW hS => ?_)
    subst hQ
    exact rt_qv () hx hb hr hlk hS (trivial) (fun t ht _ => by show WJ G d0 Rf ja _ _ t.heap; rw [ht]; exact hW) (by show 0 ≤ 0; omega) (by show 0 ≤ 0; omega) dX1_markClosed_33
  · refine lv_aload_n hx hb dX1_markClosed_5 rfl (lv_at hl 0 rfl) ?_
    refine r1_get hC hK.1 (hW.ob (show jV M 1 0 from rfl)) lay_X1 rfl 1 (by decide) fl_X1_15 (fun x hx => hx) (v := .long (bs (fun q => decide (¬ M 3 q = 0)))) rfl dX1_markClosed_6 ?_
    refine lv_iload_n hx hb dX1_markClosed_9 rfl (lv_at hl 1 rfl) ?_
    refine cl_p (run_S hC (cJ_X1_setOf l (nI j)) (As := [.int (nI j)]) (rest := [.long (bs (fun q => decide (¬ M 3 q = 0))), .ref (ja 1 0)]) rfl rfl ml_X1_21 sm_X1_setOf ini_X1 cd_X1_setOf na_X1_setOf tB_blind (fun _ _ _ => trivial) hl.1 (Nat.le_of_ble_eq_true rfl) ⟨Nat.le_of_ble_eq_true rfl, Nat.le_of_ble_eq_true rfl⟩ ⟨Nat.le_refl _, Nat.le_refl _⟩ rfl dX1_markClosed_10) ?_
    refine lv_lor hx hb dX1_markClosed_13 ?_
    refine lv_goto (tgt := 30) hx hb dX1_markClosed_14 (by decide) ?_
    refine jp_cl hC hK hW hS (j := j) (v := bI b) (by rw [c_1f]; exact bs_setb (M 3) hj (v := bI true) (by decide)) fl_X1_15 dX1_markClosed_30 (fun H locs hW hS => ?_)
    subst hQ
    exact rt_qv () hx hb hr hlk hS (trivial) (fun t ht _ => by show WJ G d0 Rf ja _ _ t.heap; rw [ht]; exact hW) (by show 0 ≤ 0; omega) (by show 0 ≤ 0; omega) dX1_markClosed_33
set_option maxHeartbeats 4000000 in
set_option maxRecDepth 100000 in
theorem cJ_X1_markDead (l : Launch) (G : gG) (d0 mi : Nat) (Rf : Nat → Prop) (ja : Nat → Nat → Nat) (M : MS) (E : ES) (j : Nat) (b : Bool) (hj : j < 64) : Met l yX1_markDead (wB yX1_markDead cX1_markDead 3 none) (rmL 1 0 0) (va_Pc [.ref (ja 1 0), .int (nI j), .int (bI b)] (jB G d0 mi Rf ja M E)) (va_Qv (S := Unit) (fun _ => True) (fun _ t => WJ G d0 Rf ja (M) (eD_ E (fun q => if q = j then b else eD E q)) t.heap) (jA Rf)) 0 0 (jA Rf) := by
  refine st_N (own := RX1) (by decide +kernel) rfl (Nat.le_of_ble_eq_true rfl) ?_
  intro p e s m below meth c ls args Q hQ hC hr hlk hnm hl hP
  obtain ⟨hW, hX, hRf⟩ := hP
  have hK := hX.1
  have hx := hC.1
  have hb := hC.2.1
  have hl : lv_has ls 3 [(0, .ref (ja 1 0)), (1, .int (nI j)), (2, .int (bI b))] := hl
  obtain ⟨H, locs, hHe, hLe⟩ : ∃ (H : Heap) (locs : List Loc), H = s.heap ∧ locs = [] := ⟨_, _, rfl, rfl⟩
  rw [← hHe] at hW
  have hS : va_S (jA Rf) s.heap H locs := by rw [hHe, hLe]; exact va_S.rf
  suffices hgo : W p l e (rmL 1 0 0) s m args below meth c H locs 0 0 Q (F0 m 0 ls []) by
    rw [hHe, hLe] at hgo
    exact hgo
  clear hHe hLe
  refine lv_aload_n hx hb dX1_markDead_0 rfl (lv_at hl 0 rfl) ?_
  refine lv_iload_n hx hb dX1_markDead_1 rfl (lv_at hl 2 rfl) ?_
  refine lb_eq (tgt := 17) (b := b) hx hb dX1_markDead_2 (by decide) (fun c_1t => ?_) (fun c_1f => ?_)
  · refine lv_aload_n hx hb dX1_markDead_17 rfl (lv_at hl 0 rfl) ?_
    refine r1_get hC hK.1 (hW.ob (show jV M 1 0 from rfl)) lay_X1 rfl 2 (by decide) fl_X1_18 (fun x hx => hx) (v := .long (bs (eD E))) rfl dX1_markDead_18 ?_
    refine lv_iload_n hx hb dX1_markDead_21 rfl (lv_at hl 1 rfl) ?_
    refine cl_p (run_S hC (cJ_X1_setOf l (nI j)) (As := [.int (nI j)]) (rest := [.long (bs (eD E)), .ref (ja 1 0)]) rfl rfl ml_X1_21 sm_X1_setOf ini_X1 cd_X1_setOf na_X1_setOf tB_blind (fun _ _ _ => trivial) hl.1 (Nat.le_of_ble_eq_true rfl) ⟨Nat.le_of_ble_eq_true rfl, Nat.le_of_ble_eq_true rfl⟩ ⟨Nat.le_refl _, Nat.le_refl _⟩ rfl dX1_markDead_22) ?_
    refine lv_ldc2 hx hb hC.2.2.2.1 (hC.2.2.2.2 _ k_X1_25) dX1_markDead_25 ?_
    refine lv_lxor hx hb dX1_markDead_28 ?_
    refine lv_land hx hb dX1_markDead_29 ?_
    refine jp_dd hC hK hW hS (f := fun q => if q = j then b else eD E q) (by rw [c_1t]; exact bs_clrd (eD E) hj) fl_X1_18 dX1_markDead_30 (fun H locs hW hS => ?_)
    subst hQ
    exact rt_qv () hx hb hr hlk hS (trivial) (fun t ht _ => by show WJ G d0 Rf ja _ _ t.heap; rw [ht]; exact hW) (by show 0 ≤ 0; omega) (by show 0 ≤ 0; omega) dX1_markDead_33
  · refine lv_aload_n hx hb dX1_markDead_5 rfl (lv_at hl 0 rfl) ?_
    refine r1_get hC hK.1 (hW.ob (show jV M 1 0 from rfl)) lay_X1 rfl 2 (by decide) fl_X1_18 (fun x hx => hx) (v := .long (bs (eD E))) rfl dX1_markDead_6 ?_
    refine lv_iload_n hx hb dX1_markDead_9 rfl (lv_at hl 1 rfl) ?_
    refine cl_p (run_S hC (cJ_X1_setOf l (nI j)) (As := [.int (nI j)]) (rest := [.long (bs (eD E)), .ref (ja 1 0)]) rfl rfl ml_X1_21 sm_X1_setOf ini_X1 cd_X1_setOf na_X1_setOf tB_blind (fun _ _ _ => trivial) hl.1 (Nat.le_of_ble_eq_true rfl) ⟨Nat.le_of_ble_eq_true rfl, Nat.le_of_ble_eq_true rfl⟩ ⟨Nat.le_refl _, Nat.le_refl _⟩ rfl dX1_markDead_10) ?_
    refine lv_lor hx hb dX1_markDead_13 ?_
    refine lv_goto (tgt := 30) hx hb dX1_markDead_14 (by decide) ?_
    refine jp_dd hC hK hW hS (f := fun q => if q = j then b else eD E q) (by rw [c_1f]; exact bs_setd (eD E) hj) fl_X1_18 dX1_markDead_30 (fun H locs hW hS => ?_)
    subst hQ
    exact rt_qv () hx hb hr hlk hS (trivial) (fun t ht _ => by show WJ G d0 Rf ja _ _ t.heap; rw [ht]; exact hW) (by show 0 ≤ 0; omega) (by show 0 ≤ 0; omega) dX1_markDead_33
set_option maxHeartbeats 4000000 in
set_option maxRecDepth 100000 in
theorem cJ_X1_openCells (l : Launch) (G : gG) (d0 mi : Nat) (Rf : Nat → Prop) (ja : Nat → Nat → Nat) (M : MS) (E : ES) : Met l yX1_openCells (wB yX1_openCells cX1_openCells 1 (some .long)) (rmL 0 0 0) (va_Pc [.ref (ja 1 0)] (jB G d0 mi Rf ja M E)) (k2_QcV (.long (bs (opE M E)))) 0 0 fN := by
  refine st_N (own := RX1) (by decide +kernel) rfl (Nat.le_of_ble_eq_true rfl) ?_
  intro p e s m below meth c ls args Q hQ hC hr hlk hnm hl hP
  obtain ⟨hW, hX, hRf⟩ := hP
  have hK := hX.1
  have hx := hC.1
  have hb := hC.2.1
  have hl : lv_has ls 1 [(0, .ref (ja 1 0))] := hl
  have hS : va_S (jA Rf) s.heap s.heap [] := va_S.rf
  refine lv_aload_n hx hb dX1_openCells_0 rfl (lv_at hl 0 rfl) ?_
  refine r1_get hC hK.1 (hW.ob (show jV M 1 0 from rfl)) lay_X1 rfl 0 (by decide) fl_X1_11 (fun x hx => hx) (v := .long (bs (fun q => decide (¬ M 2 q = 0)))) rfl dX1_openCells_1 ?_
  refine lv_aload_n hx hb dX1_openCells_4 rfl (lv_at hl 0 rfl) ?_
  refine r1_get hC hK.1 (hW.ob (show jV M 1 0 from rfl)) lay_X1 rfl 1 (by decide) fl_X1_15 (fun x hx => hx) (v := .long (bs (fun q => decide (¬ M 3 q = 0)))) rfl dX1_openCells_5 ?_
  refine lv_lor hx hb dX1_openCells_8 ?_
  refine lv_aload_n hx hb dX1_openCells_9 rfl (lv_at hl 0 rfl) ?_
  refine r1_get hC hK.1 (hW.ob (show jV M 1 0 from rfl)) lay_X1 rfl 2 (by decide) fl_X1_18 (fun x hx => hx) (v := .long (bs (eD E))) rfl dX1_openCells_10 ?_
  refine lv_lor hx hb dX1_openCells_13 ?_
  refine lv_ldc2 hx hb hC.2.2.2.1 (hC.2.2.2.2 _ k_X1_25) dX1_openCells_14 ?_
  refine lv_lxor hx hb dX1_openCells_17 ?_
  subst hQ
  exact rt_l hx hb hr hlk (bs_opE M E) dX1_openCells_18
set_option maxHeartbeats 4000000 in
set_option maxRecDepth 100000 in
theorem cJ_X1_isOpen (l : Launch) (G : gG) (d0 mi : Nat) (Rf : Nat → Prop) (ja : Nat → Nat → Nat) (M : MS) (E : ES) (o : Option Nat) (ho : ∀ j, o = some j → j < 64) : Met l yX1_isOpen (wB yX1_isOpen cX1_isOpen 2 (some .boolean)) (rmL 1 0 0) (va_Pc [.ref (ja 1 0), .int (oI o)] (jB G d0 mi Rf ja M E)) (k2_QcV (.int (bI (opO M E o)))) 0 0 fN := by
  refine st_N (own := RX1) (by decide +kernel) rfl (Nat.le_of_ble_eq_true rfl) ?_
  intro p e s m below meth c ls args Q hQ hC hr hlk hnm hl hP
  obtain ⟨hW, hX, hRf⟩ := hP
  have hK := hX.1
  have hx := hC.1
  have hb := hC.2.1
  have hl : lv_has ls 2 [(0, .ref (ja 1 0)), (1, .int (oI o))] := hl
  have hS : va_S (jA Rf) s.heap s.heap [] := va_S.rf
  refine lv_aload_n hx hb dX1_isOpen_0 rfl (lv_at hl 0 rfl) ?_
  refine cl_p (run_V hC (cJ_X1_openCells l G d0 mi Rf ja M E) (As := []) (rest := []) rfl rfl ml_X1_27 im_X1_openCells se_X1_openCells ini_X1 cd_X1_openCells ⟨rfl, na_X1_openCells⟩ jB_blind (hW.recv hK (show jV M 1 0 from rfl) rfl) (jB_at hX hRf hW hS) hl.1 (Nat.le_of_ble_eq_true rfl) ⟨Nat.le_of_ble_eq_true rfl, Nat.le_of_ble_eq_true rfl⟩ ⟨Nat.le_refl _, Nat.le_refl _⟩ rfl dX1_isOpen_1) ?_
  refine lv_iload_n hx hb dX1_isOpen_4 rfl (lv_at hl 1 rfl) ?_
  refine cl_p (run_S hC (cJ_X1_setOf l (oI o)) (As := [.int (oI o)]) (rest := [.long (bs (opE M E))]) rfl rfl ml_X1_21 sm_X1_setOf ini_X1 cd_X1_setOf na_X1_setOf tB_blind (fun _ _ _ => trivial) hl.1 (Nat.le_of_ble_eq_true rfl) ⟨Nat.le_of_ble_eq_true rfl, Nat.le_of_ble_eq_true rfl⟩ ⟨Nat.le_refl _, Nat.le_refl _⟩ rfl dX1_isOpen_5) ?_
  refine lv_land hx hb dX1_isOpen_8 ?_
  refine lv_lconst (v := 0) hx hb dX1_isOpen_9 (by decide) ?_
  refine W.lcmp hx hb dX1_isOpen_10 ?_
  refine lv_if_eq (tgt := 18) hx hb dX1_isOpen_11 (by decide) (fun c_1t => ?_) (fun c_1f => ?_)
  · have c_1t : (bs (opE M E)) &&& (bs (one_ (oI o))) = 0 := (lcmp_e _ _).mp c_1t
    refine lv_iconst (v := 0) hx hb dX1_isOpen_18 (by decide) ?_
    subst hQ
    exact rt_z hx hb hr hlk (bz0 ((bsy ho).mp c_1t)) dX1_isOpen_19
  · have c_1f : ¬ ((bs (opE M E)) &&& (bs (one_ (oI o))) = 0) := fun q => c_1f ((lcmp_e _ _).mpr q)
    refine lv_iconst (v := 1) hx hb dX1_isOpen_14 (by decide) ?_
    refine lv_goto (tgt := 19) hx hb dX1_isOpen_15 (by decide) ?_
    subst hQ
    exact rt_z hx hb hr hlk (bz1 (fun q => c_1f ((bsy ho).mpr q))) dX1_isOpen_19
set_option maxHeartbeats 4000000 in
set_option maxRecDepth 100000 in
theorem cJ_X1_neighbour (l : Launch) (j : Nat) (w : Nat) (hj : j < 64) (hw : w < 4) : Met l yX1_neighbour (wB yX1_neighbour cX1_neighbour 3 (some .int)) (rmL 0 0 0) (va_Pc [.int (nI j), .int (nI w)] (fun _ => True)) (k2_QcV (.int (oI (nbr j w)))) 0 0 fN := by
  refine st_N (own := RX1) (by decide +kernel) rfl (Nat.le_of_ble_eq_true rfl) ?_
  intro p e s m below meth c ls args Q hQ hC hr hlk hnm hl hP
  have hx := hC.1
  have hb := hC.2.1
  have hl : lv_has ls 3 [(0, .int (nI j)), (1, .int (nI w))] := hl
  refine lv_iload_n hx hb dX1_neighbour_0 rfl (lv_at hl 0 rfl) ?_
  refine lv_bipush (v := 8) hx hb dX1_neighbour_1 (by decide) ?_
  refine lv_irem hx hb dX1_neighbour_3 (by decide) ?_
  refine top_i (y := nI (j % 8)) (pk_rem (a := j) (d := 8) (by omega) (by decide) (by decide)) ?_
  refine lv_istore_n (lv' := [(2, .int (nI (j % 8))), (0, .int (nI j)), (1, .int (nI w))]) hx hb dX1_neighbour_4 rfl hl (by decide) rfl (fun ls hl => ?_)
  refine lv_iload_n hx hb dX1_neighbour_5 rfl (lv_at hl 2 rfl) ?_
  rcases (show w = 0 ∨ w = 1 ∨ w = 2 ∨ w = 3 by omega) with rfl | rfl | rfl | rfl
  · refine lv_tableIn (off := 26) (tgt := 32) hx hb dX1_neighbour_6 (by decide) (by decide) (by decide) (by decide) ?_
    refine lv_iload_n hx hb dX1_neighbour_32 rfl (lv_at hl 1 rfl) ?_
    refine lv_bipush (v := 8) hx hb dX1_neighbour_33 (by decide) ?_
    refine ln_lt (tgt := 45) (a := j) (b := 8) hx hb dX1_neighbour_35 (by decide) rfl rfl (by omega) (by omega) (fun c_1t => ?_) (fun c_1f => ?_)
    · refine lv_iconst (v := (-1)) hx hb dX1_neighbour_45 (by decide) ?_
      subst hQ
      exact rt_i hx hb hr hlk (by rw [show nbr j 0 = none from if_neg (by omega)]; rfl) dX1_neighbour_46
    · refine lv_iload_n hx hb dX1_neighbour_38 rfl (lv_at hl 1 rfl) ?_
      refine lv_bipush (v := 8) hx hb dX1_neighbour_39 (by decide) ?_
      refine lv_isub hx hb dX1_neighbour_41 ?_
      refine top_i (y := nI (j - 8)) (pk_sub (a := j) (b := 8) (by omega)) ?_
      refine lv_goto (tgt := 46) hx hb dX1_neighbour_42 (by decide) ?_
      subst hQ
      exact rt_i hx hb hr hlk (by rw [show nbr j 0 = some (j - 8) from if_pos (by omega)]; rfl) dX1_neighbour_46
  · refine lv_tableIn (off := 41) (tgt := 47) hx hb dX1_neighbour_6 (by decide) (by decide) (by decide) (by decide) ?_
    refine lv_iload_n hx hb dX1_neighbour_47 rfl (lv_at hl 0 rfl) ?_
    refine lv_if_le (tgt := 57) hx hb dX1_neighbour_48 (by decide) (fun c_2t => ?_) (fun c_2f => ?_)
    · refine lv_iconst (v := (-1)) hx hb dX1_neighbour_57 (by decide) ?_
      subst hQ
      exact rt_i hx hb hr hlk (by have k_ := (nI_leI (a := j % 8) (b := 0) (by omega) (by decide)).mp c_2t; rw [show nbr j 1 = none from if_pos (by omega)]; rfl) dX1_neighbour_58
    · have k_ : ¬ j % 8 = 0 := fun z => c_2f (by rw [z]; decide)
      refine lv_iload_n hx hb dX1_neighbour_51 rfl (lv_at hl 1 rfl) ?_
      refine lv_iconst (v := 1) hx hb dX1_neighbour_52 (by decide) ?_
      refine lv_isub hx hb dX1_neighbour_53 ?_
      refine top_i (y := nI (j - 1)) (pk_sub (a := j) (b := 1) (by omega)) ?_
      refine lv_goto (tgt := 58) hx hb dX1_neighbour_54 (by decide) ?_
      subst hQ
      exact rt_i hx hb hr hlk (by rw [show nbr j 1 = some (j - 1) from if_neg (by omega)]; rfl) dX1_neighbour_58
  · refine lv_tableIn (off := 53) (tgt := 59) hx hb dX1_neighbour_6 (by decide) (by decide) (by decide) (by decide) ?_
    refine lv_iload_n hx hb dX1_neighbour_59 rfl (lv_at hl 0 rfl) ?_
    refine lv_bipush (v := 7) hx hb dX1_neighbour_60 (by decide) ?_
    refine ln_ge (tgt := 71) (a := (j % 8)) (b := 7) hx hb dX1_neighbour_62 (by decide) rfl rfl (by omega) (by omega) (fun c_3t => ?_) (fun c_3f => ?_)
    · refine lv_iconst (v := (-1)) hx hb dX1_neighbour_71 (by decide) ?_
      subst hQ
      exact rt_i hx hb hr hlk (by rw [show nbr j 2 = none from if_pos (by omega)]; rfl) dX1_neighbour_72
    · refine lv_iload_n hx hb dX1_neighbour_65 rfl (lv_at hl 1 rfl) ?_
      refine lv_iconst (v := 1) hx hb dX1_neighbour_66 (by decide) ?_
      refine lv_iadd hx hb dX1_neighbour_67 ?_
      refine top_i (y := nI (j + 1)) (nI_add j 1) ?_
      refine lv_goto (tgt := 72) hx hb dX1_neighbour_68 (by decide) ?_
      subst hQ
      exact rt_i hx hb hr hlk (by rw [show nbr j 2 = some (j + 1) from if_neg (by omega)]; rfl) dX1_neighbour_72
  · refine lv_tableOut (tgt := 73) hx hb dX1_neighbour_6 (by decide) (by decide) ?_
    refine lv_iload_n hx hb dX1_neighbour_73 rfl (lv_at hl 1 rfl) ?_
    refine lv_bipush (v := 56) hx hb dX1_neighbour_74 (by decide) ?_
    refine ln_ge (tgt := 86) (a := j) (b := 56) hx hb dX1_neighbour_76 (by decide) rfl rfl (by omega) (by omega) (fun c_4t => ?_) (fun c_4f => ?_)
    · refine lv_iconst (v := (-1)) hx hb dX1_neighbour_86 (by decide) ?_
      subst hQ
      exact rt_i hx hb hr hlk (by rw [show nbr j 3 = none from if_neg (by omega)]; rfl) dX1_neighbour_87
    · refine lv_iload_n hx hb dX1_neighbour_79 rfl (lv_at hl 1 rfl) ?_
      refine lv_bipush (v := 8) hx hb dX1_neighbour_80 (by decide) ?_
      refine lv_iadd hx hb dX1_neighbour_82 ?_
      refine top_i (y := nI (j + 8)) (nI_add j 8) ?_
      refine lv_goto (tgt := 87) hx hb dX1_neighbour_83 (by decide) ?_
      subst hQ
      exact rt_i hx hb hr hlk (by rw [show nbr j 3 = some (j + 8) from if_pos (by omega)]; rfl) dX1_neighbour_87
set_option maxHeartbeats 4000000 in
set_option maxRecDepth 100000 in
theorem cJ_X1_neighboursOf (l : Launch) (R : Nat → Bool) : Met l yX1_neighboursOf (wB yX1_neighboursOf cX1_neighboursOf 2 (some .long)) (rmL 0 0 0) (va_Pc [.long (bs R)] (fun _ => True)) (k2_QcV (.long (bs (nbh R)))) 0 0 fN := by
  refine st_N (own := RX1) (by decide +kernel) rfl (Nat.le_of_ble_eq_true rfl) ?_
  intro p e s m below meth c ls args Q hQ hC hr hlk hnm hl hP
  have hx := hC.1
  have hb := hC.2.1
  have hl : lv_has ls 2 [(0, .long (bs R))] := hl
  refine lv_lload_n hx hb dX1_neighboursOf_0 rfl (lv_at hl 0 rfl) ?_
  refine lv_bipush (v := 8) hx hb dX1_neighboursOf_1 (by decide) ?_
  refine lv_lshl hx hb dX1_neighboursOf_3 rfl ?_
  refine lv_lload_n hx hb dX1_neighboursOf_4 rfl (lv_at hl 0 rfl) ?_
  refine lv_bipush (v := 8) hx hb dX1_neighboursOf_5 (by decide) ?_
  refine lv_lushr hx hb dX1_neighboursOf_7 rfl ?_
  refine lv_lor hx hb dX1_neighboursOf_8 ?_
  refine lv_lload_n hx hb dX1_neighboursOf_9 rfl (lv_at hl 0 rfl) ?_
  refine lv_ldc2 hx hb hC.2.2.2.1 (hC.2.2.2.2 _ k_X1_31) dX1_neighboursOf_10 ?_
  refine lv_land hx hb dX1_neighboursOf_13 ?_
  refine lv_iconst (v := 1) hx hb dX1_neighboursOf_14 (by decide) ?_
  refine lv_lshl hx hb dX1_neighboursOf_15 rfl ?_
  refine lv_lor hx hb dX1_neighboursOf_16 ?_
  refine lv_lload_n hx hb dX1_neighboursOf_17 rfl (lv_at hl 0 rfl) ?_
  refine lv_ldc2 hx hb hC.2.2.2.1 (hC.2.2.2.2 _ k_X1_33) dX1_neighboursOf_18 ?_
  refine lv_land hx hb dX1_neighboursOf_21 ?_
  refine lv_iconst (v := 1) hx hb dX1_neighboursOf_22 (by decide) ?_
  refine lv_lushr hx hb dX1_neighboursOf_23 rfl ?_
  refine lv_lor hx hb dX1_neighboursOf_24 ?_
  subst hQ
  exact rt_l hx hb hr hlk (bs_nbh R) dX1_neighboursOf_25
set_option maxHeartbeats 4000000 in
set_option maxRecDepth 100000 in
theorem cJ_X1_stepsBetween (l : Launch) (G : gG) (d0 mi : Nat) (Rf : Nat → Prop) (ja : Nat → Nat → Nat) (M : MS) (E : ES) (f : Nat) (t : Nat) (x : Int32) (h9f : f < 64) (h9t : t < 64) : Met l yX1_stepsBetween (wB yX1_stepsBetween cX1_stepsBetween 13 (some .int)) (rmL 1 0 0) (va_Pc [.ref (ja 1 0), .int (nI f), .int (nI t), .int x] (jB G d0 mi Rf ja M E)) (k2_QcV (.int (oI (dG (frE M E x) f t)))) 0 0 fN := by
  refine st_N (own := RX1) (by decide +kernel) rfl (Nat.le_of_ble_eq_true rfl) ?_
  intro p e s m below meth c ls args Q hQ hC hr hlk hnm hl hP
  obtain ⟨hW, hX, hRf⟩ := hP
  have hK := hX.1
  have hx := hC.1
  have hb := hC.2.1
  have hl : lv_has ls 13 [(0, .ref (ja 1 0)), (1, .int (nI f)), (2, .int (nI t)), (3, .int x)] := hl
  have hS : va_S (jA Rf) s.heap s.heap [] := va_S.rf
  refine lv_iload_n hx hb dX1_stepsBetween_0 rfl (lv_at hl 1 rfl) ?_
  refine lv_iload_n hx hb dX1_stepsBetween_1 rfl (lv_at hl 2 rfl) ?_
  refine ln_ne (tgt := 7) (a := f) (b := t) hx hb dX1_stepsBetween_2 (by decide) rfl rfl (by omega) (by omega) (fun c_1t => ?_) (fun c_1f => ?_)
  · have hne := c_1t
    refine lv_aload_n hx hb dX1_stepsBetween_7 rfl (lv_at hl 0 rfl) ?_
    refine cl_p (run_V hC (cJ_X1_openCells l G d0 mi Rf ja M E) (As := []) (rest := []) rfl rfl ml_X1_27 im_X1_openCells se_X1_openCells ini_X1 cd_X1_openCells ⟨rfl, na_X1_openCells⟩ jB_blind (hW.recv hK (show jV M 1 0 from rfl) rfl) (jB_at hX hRf hW hS) hl.1 (Nat.le_of_ble_eq_true rfl) ⟨Nat.le_of_ble_eq_true rfl, Nat.le_of_ble_eq_true rfl⟩ ⟨Nat.le_refl _, Nat.le_refl _⟩ rfl dX1_stepsBetween_8) ?_
    refine lv_iload_n hx hb dX1_stepsBetween_11 rfl (lv_at hl 3 rfl) ?_
    refine cl_p (run_S hC (cJ_X1_setOf l x) (As := [.int x]) (rest := [.long (bs (opE M E))]) rfl rfl ml_X1_21 sm_X1_setOf ini_X1 cd_X1_setOf na_X1_setOf tB_blind (fun _ _ _ => trivial) hl.1 (Nat.le_of_ble_eq_true rfl) ⟨Nat.le_of_ble_eq_true rfl, Nat.le_of_ble_eq_true rfl⟩ ⟨Nat.le_refl _, Nat.le_refl _⟩ rfl dX1_stepsBetween_12) ?_
    refine lv_ldc2 hx hb hC.2.2.2.1 (hC.2.2.2.2 _ k_X1_25) dX1_stepsBetween_15 ?_
    refine lv_lxor hx hb dX1_stepsBetween_18 ?_
    refine lv_land hx hb dX1_stepsBetween_19 ?_
    refine top_l (y := bs (frE M E x)) (bs_frE M E x) ?_
    refine lv_lstore (lv' := [(4, .long (bs (frE M E x))), (0, .ref (ja 1 0)), (1, .int (nI f)), (2, .int (nI t)), (3, .int x)]) hx hb dX1_stepsBetween_20 hl (by decide) rfl (fun ls hl => ?_)
    refine lv_lload hx hb dX1_stepsBetween_22 (lv_at hl 0 rfl) ?_
    refine lv_iload_n hx hb dX1_stepsBetween_24 rfl (lv_at hl 3 rfl) ?_
    refine cl_p (run_S hC (cJ_X1_setOf l (nI t)) (As := [.int (nI t)]) (rest := [.long (bs (frE M E x))]) rfl rfl ml_X1_21 sm_X1_setOf ini_X1 cd_X1_setOf na_X1_setOf tB_blind (fun _ _ _ => trivial) hl.1 (Nat.le_of_ble_eq_true rfl) ⟨Nat.le_of_ble_eq_true rfl, Nat.le_of_ble_eq_true rfl⟩ ⟨Nat.le_refl _, Nat.le_refl _⟩ rfl dX1_stepsBetween_25) ?_
    refine lv_land hx hb dX1_stepsBetween_28 ?_
    refine lv_lstore (lv' := [(6, .long ((bs (frE M E x)) &&& (bs (one_ (nI t))))), (4, .long (bs (frE M E x))), (0, .ref (ja 1 0)), (1, .int (nI f)), (2, .int (nI t)), (3, .int x)]) hx hb dX1_stepsBetween_29 hl (by decide) rfl (fun ls hl => ?_)
    refine lv_iload_n hx hb dX1_stepsBetween_31 rfl (lv_at hl 3 rfl) ?_
    refine cl_p (run_S hC (cJ_X1_setOf l (nI f)) (As := [.int (nI f)]) (rest := []) rfl rfl ml_X1_21 sm_X1_setOf ini_X1 cd_X1_setOf na_X1_setOf tB_blind (fun _ _ _ => trivial) hl.1 (Nat.le_of_ble_eq_true rfl) ⟨Nat.le_of_ble_eq_true rfl, Nat.le_of_ble_eq_true rfl⟩ ⟨Nat.le_refl _, Nat.le_refl _⟩ rfl dX1_stepsBetween_32) ?_
    refine top_l (y := bs (swp (frE M E x) f 0)) (bs_one h9f) ?_
    refine lv_lstore (lv' := [(8, .long (bs (swp (frE M E x) f 0))), (6, .long ((bs (frE M E x)) &&& (bs (one_ (nI t))))), (4, .long (bs (frE M E x))), (0, .ref (ja 1 0)), (1, .int (nI f)), (2, .int (nI t)), (3, .int x)]) hx hb dX1_stepsBetween_35 hl (by decide) rfl (fun ls hl => ?_)
    refine lv_iconst (v := 1) hx hb dX1_stepsBetween_37 (by decide) ?_
    refine lv_istore (lv' := [(10, .int 1), (8, .long (bs (swp (frE M E x) f 0))), (6, .long ((bs (frE M E x)) &&& (bs (one_ (nI t))))), (4, .long (bs (frE M E x))), (0, .ref (ja 1 0)), (1, .int (nI f)), (2, .int (nI t)), (3, .int x)]) hx hb dX1_stepsBetween_38 hl (by decide) rfl (fun ls hl => ?_)
    have loop2 : ∀ (n_ : Nat) (n : Nat) (hn : swp (frE M E x) f n t = false) (hct : n + 1 ≤ fb_ct (swp (frE M E x) f n) 64) (ls : Array Slot), 64 - n < n_ → lv_has ls 13 [(10, .int (nI (n + 1))), (8, .long (bs (swp (frE M E x) f n))), (6, .long ((bs (frE M E x)) &&& (bs (one_ (nI t))))), (4, .long (bs (frE M E x))), (0, .ref (ja 1 0)), (1, .int (nI f)), (2, .int (nI t)), (3, .int x)] → W p l e (rmL 1 0 0) s m args below meth c s.heap [] 0 0 Q (F0 m 40 ls []) := by
      intro n_
      induction n_ with
      | zero => intro n hn hct ls hm hl; omega
      | succ n_ ih2 =>
        intro n hn hct ls hm hl
        have hfull := sw_full (O := (frE M E x)) (f := f) h9t hn
        refine lv_iload hx hb dX1_stepsBetween_40 (lv_at hl 0 rfl) ?_
        refine lv_bipush (v := 64) hx hb dX1_stepsBetween_42 (by decide) ?_
        refine ln_ge (tgt := 100) (a := (n + 1)) (b := 64) hx hb dX1_stepsBetween_44 (by decide) rfl rfl (by omega) (by omega) (fun c_3t => ?_) (fun c_3f => ?_)
        · exact absurd hfull (by omega)
        · refine lv_lload hx hb dX1_stepsBetween_47 (lv_at hl 2 rfl) ?_
          refine lv_lconst (v := 0) hx hb dX1_stepsBetween_49 (by decide) ?_
          refine W.lcmp hx hb dX1_stepsBetween_50 ?_
          refine lv_if_eq (tgt := 100) hx hb dX1_stepsBetween_51 (by decide) (fun c_4t => ?_) (fun c_4f => ?_)
          · have c_4t : (bs (frE M E x)) &&& (bs (one_ (nI t))) = 0 := (lcmp_e _ _).mp c_4t
            refine lv_iconst (v := (-1)) hx hb dX1_stepsBetween_100 (by decide) ?_
            subst hQ
            exact rt_i hx hb hr hlk (by rw [sw_goal h9f h9t hne ((bsx h9t).mp c_4t)]; rfl) dX1_stepsBetween_101
          · have c_4f : ¬ ((bs (frE M E x)) &&& (bs (one_ (nI t))) = 0) := fun q => c_4f ((lcmp_e _ _).mpr q)
            refine lv_lload hx hb dX1_stepsBetween_54 (lv_at hl 1 rfl) ?_
            refine lv_lload hx hb dX1_stepsBetween_56 (lv_at hl 1 rfl) ?_
            refine cl_p (run_S hC (cJ_X1_neighboursOf l (swp (frE M E x) f n)) (As := [.long (bs (swp (frE M E x) f n))]) (rest := [.long (bs (swp (frE M E x) f n))]) rfl rfl ml_X1_35 sm_X1_neighboursOf ini_X1 cd_X1_neighboursOf na_X1_neighboursOf tB_blind (fun _ _ _ => trivial) hl.1 (Nat.le_of_ble_eq_true rfl) ⟨Nat.le_of_ble_eq_true rfl, Nat.le_of_ble_eq_true rfl⟩ ⟨Nat.le_refl _, Nat.le_refl _⟩ rfl dX1_stepsBetween_58) ?_
            refine lv_lload hx hb dX1_stepsBetween_61 (lv_at hl 3 rfl) ?_
            refine lv_land hx hb dX1_stepsBetween_63 ?_
            refine lv_lor hx hb dX1_stepsBetween_64 ?_
            refine top_l (y := bs (swp (frE M E x) f (n + 1))) (by rw [bs_and, bs_or]; rfl) ?_
            refine lv_lstore (lv' := [(11, .long (bs (swp (frE M E x) f (n + 1)))), (10, .int (nI (n + 1))), (8, .long (bs (swp (frE M E x) f n))), (6, .long ((bs (frE M E x)) &&& (bs (one_ (nI t))))), (4, .long (bs (frE M E x))), (0, .ref (ja 1 0)), (1, .int (nI f)), (2, .int (nI t)), (3, .int x)]) hx hb dX1_stepsBetween_65 hl (by decide) rfl (fun ls hl => ?_)
            refine lv_lload hx hb dX1_stepsBetween_67 (lv_at hl 0 rfl) ?_
            refine lv_lload hx hb dX1_stepsBetween_69 (lv_at hl 3 rfl) ?_
            refine lv_land hx hb dX1_stepsBetween_71 ?_
            refine lv_lconst (v := 0) hx hb dX1_stepsBetween_72 (by decide) ?_
            refine W.lcmp hx hb dX1_stepsBetween_73 ?_
            refine lv_if_eq (tgt := 80) hx hb dX1_stepsBetween_74 (by decide) (fun c_5t => ?_) (fun c_5f => ?_)
            · have c_5t : (bs (swp (frE M E x) f (n + 1))) &&& ((bs (frE M E x)) &&& (bs (one_ (nI t)))) = 0 := (lcmp_e _ _).mp c_5t
              have hO : (frE M E x) t = true := by
                cases h9 : (frE M E x) t with
                | true => rfl
                | false => exact absurd ((bsx h9t).mpr h9) c_4f
              have hn2 : swp (frE M E x) f (n + 1) t = false := by
                have h9 := (bsxy h9t).mp c_5t
                rw [hO, Bool.and_true] at h9
                exact h9
              refine lv_lload hx hb dX1_stepsBetween_80 (lv_at hl 0 rfl) ?_
              refine lv_lload hx hb dX1_stepsBetween_82 (lv_at hl 2 rfl) ?_
              refine W.lcmp hx hb dX1_stepsBetween_84 ?_
              refine lv_if_ne (tgt := 90) hx hb dX1_stepsBetween_85 (by decide) (fun c_6t => ?_) (fun c_6f => ?_)
              · have c_6t : ¬ (bs (swp (frE M E x) f (n + 1)) = bs (swp (frE M E x) f n)) := fun q => c_6t ((lcmp_e _ _).mpr q)
                refine lv_lload hx hb dX1_stepsBetween_90 (lv_at hl 0 rfl) ?_
                refine lv_lstore (lv' := [(8, .long (bs (swp (frE M E x) f (n + 1)))), (11, .long (bs (swp (frE M E x) f (n + 1)))), (10, .int (nI (n + 1))), (6, .long ((bs (frE M E x)) &&& (bs (one_ (nI t))))), (4, .long (bs (frE M E x))), (0, .ref (ja 1 0)), (1, .int (nI f)), (2, .int (nI t)), (3, .int x)]) hx hb dX1_stepsBetween_92 hl (by decide) rfl (fun ls hl => ?_)
                refine lv_iinc (v := nI ((n + 1) + 1)) (lv' := [(10, .int (nI ((n + 1) + 1))), (8, .long (bs (swp (frE M E x) f (n + 1)))), (11, .long (bs (swp (frE M E x) f (n + 1)))), (6, .long ((bs (frE M E x)) &&& (bs (one_ (nI t))))), (4, .long (bs (frE M E x))), (0, .ref (ja 1 0)), (1, .int (nI f)), (2, .int (nI t)), (3, .int x)]) hx hb dX1_stepsBetween_94 hl (k := 2) rfl (nI_inc _) (by decide) rfl (fun ls hl => ?_)
                refine lv_goto (tgt := 40) hx hb dX1_stepsBetween_97 (by decide) ?_
                exact ih2 (n + 1) hn2 (by have := sw_grow (O := (frE M E x)) (f := f) (n := n) (fun q => c_6t (bs_eq.mpr q)); omega) ls (by omega) (lv_sub hl [0, 1, 3, 4, 5, 6, 7, 8] rfl)
              · have c_6f : bs (swp (frE M E x) f (n + 1)) = bs (swp (frE M E x) f n) := (lcmp_e _ _).mp c_6f
                refine lv_iconst (v := (-1)) hx hb dX1_stepsBetween_88 (by decide) ?_
                subst hQ
                exact rt_i hx hb hr hlk (by rw [sw_stuck h9f h9t hne hn (fun i hi => bs_eq.mp c_6f i hi)]; rfl) dX1_stepsBetween_89
            · have c_5f : ¬ ((bs (swp (frE M E x) f (n + 1))) &&& ((bs (frE M E x)) &&& (bs (one_ (nI t)))) = 0) := fun q => c_5f ((lcmp_e _ _).mpr q)
              refine lv_iload hx hb dX1_stepsBetween_77 (lv_at hl 1 rfl) ?_
              subst hQ
              exact rt_i hx hb hr hlk (by rw [sw_found h9f h9t hne hn (by cases h9 : swp (frE M E x) f (n + 1) t with | true => rfl | false => exact absurd ((bsxy h9t).mpr (by rw [h9]; rfl)) c_5f)]; rfl) dX1_stepsBetween_79
    exact loop2 ((64 - 0) + 1) 0 (by unfold swp; exact decide_eq_false (fun q => hne q.symm)) (sw_0 h9f) ls (by omega) (lv_sub hl [0, 1, 2, 3, 4, 5, 6, 7] rfl)
  · refine lv_iconst (v := 0) hx hb dX1_stepsBetween_5 (by decide) ?_
    subst hQ
    exact rt_i hx hb hr hlk (by unfold dG; rw [if_pos c_1f]; rfl) dX1_stepsBetween_6
set_option maxHeartbeats 4000000 in
set_option maxRecDepth 100000 in
theorem cJ_X1_nextCell (l : Launch) (G : gG) (d0 mi : Nat) (Rf : Nat → Prop) (ja : Nat → Nat → Nat) (M : MS) (E : ES) (f : Nat) (g : Nat) (x : Int32) (h9f : f < 64) (h9g : g < 64) : Met l yX1_nextCell (wB yX1_nextCell cX1_nextCell 9 (some .int)) (rmL 2 0 0) (va_Pc [.ref (ja 1 0), .int (nI f), .int (nI g), .int x] (jB G d0 mi Rf ja M E)) (k2_QcV (.int (oI ((nrst (dS (frE M E x) g) f).map (fun q => q.1))))) 0 0 fN := by
  refine st_N (own := RX1) (by decide +kernel) rfl (Nat.le_of_ble_eq_true rfl) ?_
  intro p e s m below meth c ls args Q hQ hC hr hlk hnm hl hP
  obtain ⟨hW, hX, hRf⟩ := hP
  have hK := hX.1
  have hx := hC.1
  have hb := hC.2.1
  have hl : lv_has ls 9 [(0, .ref (ja 1 0)), (1, .int (nI f)), (2, .int (nI g)), (3, .int x)] := hl
  have hS : va_S (jA Rf) s.heap s.heap [] := va_S.rf
  refine lv_iconst (v := (-1)) hx hb dX1_nextCell_0 (by decide) ?_
  refine lv_istore (lv' := [(4, .int (-1)), (0, .ref (ja 1 0)), (1, .int (nI f)), (2, .int (nI g)), (3, .int x)]) hx hb dX1_nextCell_1 hl (by decide) rfl (fun ls hl => ?_)
  refine lv_bipush (v := 64) hx hb dX1_nextCell_3 (by decide) ?_
  refine lv_istore (lv' := [(5, .int 64), (4, .int (-1)), (0, .ref (ja 1 0)), (1, .int (nI f)), (2, .int (nI g)), (3, .int x)]) hx hb dX1_nextCell_5 hl (by decide) rfl (fun ls hl => ?_)
  refine lv_iconst (v := 0) hx hb dX1_nextCell_7 (by decide) ?_
  refine lv_istore (lv' := [(6, .int 0), (5, .int 64), (4, .int (-1)), (0, .ref (ja 1 0)), (1, .int (nI f)), (2, .int (nI g)), (3, .int x)]) hx hb dX1_nextCell_8 hl (by decide) rfl (fun ls hl => ?_)
  have loop1 : ∀ (n_ : Nat) (w : Nat) (B : Option (Nat × Nat)) (hw : w ≤ 4) (hB : bst (nbF (dS (frE M E x) g) f) w = B) (ls : Array Slot), 4 - w < n_ → lv_has ls 9 [(6, .int (nI w)), (5, .int (nxL B)), (4, .int (nxI B)), (0, .ref (ja 1 0)), (1, .int (nI f)), (2, .int (nI g)), (3, .int x)] → W p l e (rmL 2 0 0) s m args below meth c s.heap [] 0 0 Q (F0 m 10 ls []) := by
    intro n_
    induction n_ with
    | zero => intro w B hw hB ls hm hl; omega
    | succ n_ ih1 =>
      intro w B hw hB ls hm hl
      rcases B with _ | ⟨p1, p2⟩
      · have hl : lv_has ls 9 [(6, .int (nI w)), (5, .int 64), (4, .int (-1)), (0, .ref (ja 1 0)), (1, .int (nI f)), (2, .int (nI g)), (3, .int x)] := hl
        refine lv_iload hx hb dX1_nextCell_10 (lv_at hl 0 rfl) ?_
        refine lv_iconst (v := 4) hx hb dX1_nextCell_12 (by decide) ?_
        refine ln_ge (tgt := 76) (a := w) (b := 4) hx hb dX1_nextCell_13 (by decide) rfl rfl (by omega) (by omega) (fun c_2t => ?_) (fun c_2f => ?_)
        · refine lv_iload hx hb dX1_nextCell_76 (lv_at hl 2 rfl) ?_
          subst hQ
          exact rt_i hx hb hr hlk (by unfold nrst; rw [show (4 : Nat) = w by omega, hB]; rfl) dX1_nextCell_78
        · refine lv_iload_n hx hb dX1_nextCell_16 rfl (lv_at hl 4 rfl) ?_
          refine lv_iload hx hb dX1_nextCell_17 (lv_at hl 0 rfl) ?_
          refine cl_p (run_S hC (cJ_X1_neighbour l f w (by omega) (by omega)) (As := [.int (nI f), .int (nI w)]) (rest := []) rfl rfl ml_X1_39 sm_X1_neighbour ini_X1 cd_X1_neighbour na_X1_neighbour tB_blind (fun _ _ _ => trivial) hl.1 (Nat.le_of_ble_eq_true rfl) ⟨Nat.le_of_ble_eq_true rfl, Nat.le_of_ble_eq_true rfl⟩ ⟨Nat.le_refl _, Nat.le_refl _⟩ rfl dX1_nextCell_19) ?_
          rcases hnb : nbr f w with _ | c0
          · refine top_i (y := -1) rfl ?_
            refine lv_istore (lv' := [(7, .int (-1)), (6, .int (nI w)), (5, .int 64), (4, .int (-1)), (0, .ref (ja 1 0)), (1, .int (nI f)), (2, .int (nI g)), (3, .int x)]) hx hb dX1_nextCell_22 hl (by decide) rfl (fun ls hl => ?_)
            refine lv_aload_n hx hb dX1_nextCell_24 rfl (lv_at hl 4 rfl) ?_
            refine lv_iload hx hb dX1_nextCell_25 (lv_at hl 0 rfl) ?_
            refine cl_pi (x := 0) (run_V hC (cJ_X1_isOpen l G d0 mi Rf ja M E none (fun j hj => by cases hj)) (As := [.int (-1)]) (rest := []) rfl rfl ml_X1_43 im_X1_isOpen se_X1_isOpen ini_X1 cd_X1_isOpen ⟨rfl, na_X1_isOpen⟩ jB_blind (hW.recv hK (show jV M 1 0 from rfl) rfl) (jB_at hX hRf hW hS) hl.1 (Nat.le_of_ble_eq_true rfl) ⟨Nat.le_of_ble_eq_true rfl, Nat.le_of_ble_eq_true rfl⟩ ⟨Nat.le_refl _, Nat.le_refl _⟩ rfl dX1_nextCell_27) (rfl) ?_
            refine lv_if_eq (tgt := 70) hx hb dX1_nextCell_30 (by decide) (fun _ => ?_) (fun c => absurd c (by decide))
            refine lv_iinc (v := nI (w + 1)) (lv' := [(6, .int (nI (w + 1))), (7, .int (-1)), (5, .int 64), (4, .int (-1)), (0, .ref (ja 1 0)), (1, .int (nI f)), (2, .int (nI g)), (3, .int x)]) hx hb dX1_nextCell_70 hl (k := 1) rfl (nI_inc _) (by decide) rfl (fun ls hl => ?_)
            refine lv_goto (tgt := 10) hx hb dX1_nextCell_73 (by decide) ?_
            exact ih1 (w + 1) none (by omega) ((bst_skip (nbF_n hnb)).trans hB) ls (by omega) (lv_sub hl [0, 2, 3, 4, 5, 6, 7] rfl)
          · have hc0 := nbr_lt f h9f w (by omega) c0 hnb
            refine top_i (y := nI c0) rfl ?_
            refine lv_istore (lv' := [(7, .int (nI c0)), (6, .int (nI w)), (5, .int 64), (4, .int (-1)), (0, .ref (ja 1 0)), (1, .int (nI f)), (2, .int (nI g)), (3, .int x)]) hx hb dX1_nextCell_22 hl (by decide) rfl (fun ls hl => ?_)
            refine lv_aload_n hx hb dX1_nextCell_24 rfl (lv_at hl 4 rfl) ?_
            refine lv_iload hx hb dX1_nextCell_25 (lv_at hl 0 rfl) ?_
            refine cl_pi (x := bI (opE M E c0)) (run_V hC (cJ_X1_isOpen l G d0 mi Rf ja M E (some c0) (fun j hj => by cases hj; exact hc0)) (As := [.int (nI c0)]) (rest := []) rfl rfl ml_X1_43 im_X1_isOpen se_X1_isOpen ini_X1 cd_X1_isOpen ⟨rfl, na_X1_isOpen⟩ jB_blind (hW.recv hK (show jV M 1 0 from rfl) rfl) (jB_at hX hRf hW hS) hl.1 (Nat.le_of_ble_eq_true rfl) ⟨Nat.le_of_ble_eq_true rfl, Nat.le_of_ble_eq_true rfl⟩ ⟨Nat.le_refl _, Nat.le_refl _⟩ rfl dX1_nextCell_27) (rfl) ?_
            refine lb_eq (tgt := 70) (b := (opE M E c0)) hx hb dX1_nextCell_30 (by decide) (fun c_4t => ?_) (fun c_4f => ?_)
            · refine lv_iinc (v := nI (w + 1)) (lv' := [(6, .int (nI (w + 1))), (7, .int (nI c0)), (5, .int 64), (4, .int (-1)), (0, .ref (ja 1 0)), (1, .int (nI f)), (2, .int (nI g)), (3, .int x)]) hx hb dX1_nextCell_70 hl (k := 1) rfl (nI_inc _) (by decide) rfl (fun ls hl => ?_)
              refine lv_goto (tgt := 10) hx hb dX1_nextCell_73 (by decide) ?_
              exact ih1 (w + 1) none (by omega) ((bst_skip (nbF_d hnb (dS_closed (by unfold frE; rw [c_4t, Bool.false_and])))).trans hB) ls (by omega) (lv_sub hl [0, 2, 3, 4, 5, 6, 7] rfl)
            · refine lv_iload hx hb dX1_nextCell_33 (lv_at hl 0 rfl) ?_
              refine lv_iload_n hx hb dX1_nextCell_35 rfl (lv_at hl 7 rfl) ?_
              refine lv_icmp_eq (tgt := 70) hx hb dX1_nextCell_36 (by decide) (fun c_5t => ?_) (fun c_5f => ?_)
              · refine lv_iinc (v := nI (w + 1)) (lv' := [(6, .int (nI (w + 1))), (7, .int (nI c0)), (5, .int 64), (4, .int (-1)), (0, .ref (ja 1 0)), (1, .int (nI f)), (2, .int (nI g)), (3, .int x)]) hx hb dX1_nextCell_70 hl (k := 1) rfl (nI_inc _) (by decide) rfl (fun ls hl => ?_)
                refine lv_goto (tgt := 10) hx hb dX1_nextCell_73 (by decide) ?_
                exact ih1 (w + 1) none (by omega) ((bst_skip (nbF_d hnb (dS_closed (by unfold frE one_; rw [decide_eq_true c_5t]; simp)))).trans hB) ls (by omega) (lv_sub hl [0, 2, 3, 4, 5, 6, 7] rfl)
              · have hfr : (frE M E x) c0 = true := by unfold frE one_; rw [c_4f, decide_eq_false c_5f]; rfl
                have hrec := dS_rec h9g hc0 hfr
                refine lv_aload_n hx hb dX1_nextCell_39 rfl (lv_at hl 4 rfl) ?_
                refine lv_iload hx hb dX1_nextCell_40 (lv_at hl 0 rfl) ?_
                refine lv_iload_n hx hb dX1_nextCell_42 rfl (lv_at hl 6 rfl) ?_
                refine lv_iload_n hx hb dX1_nextCell_43 rfl (lv_at hl 7 rfl) ?_
                refine cl_p (run_V hC (cJ_X1_stepsBetween l G d0 mi Rf ja M E c0 g x (by omega) (by omega)) (As := [.int (nI c0), .int (nI g), .int x]) (rest := []) rfl rfl ml_X1_47 im_X1_stepsBetween se_X1_stepsBetween ini_X1 cd_X1_stepsBetween ⟨rfl, na_X1_stepsBetween⟩ jB_blind (hW.recv hK (show jV M 1 0 from rfl) rfl) (jB_at hX hRf hW hS) hl.1 (Nat.le_of_ble_eq_true rfl) ⟨Nat.le_of_ble_eq_true rfl, Nat.le_of_ble_eq_true rfl⟩ ⟨Nat.le_refl _, Nat.le_refl _⟩ rfl dX1_nextCell_44) ?_
                rcases hd : dG (frE M E x) c0 g with _ | d
                · refine top_i (y := -1) rfl ?_
                  have hdS := hrec.trans hd
                  refine lv_istore (lv' := [(8, .int (-1)), (7, .int (nI c0)), (6, .int (nI w)), (5, .int 64), (4, .int (-1)), (0, .ref (ja 1 0)), (1, .int (nI f)), (2, .int (nI g)), (3, .int x)]) hx hb dX1_nextCell_47 hl (by decide) rfl (fun ls hl => ?_)
                  refine lv_iload hx hb dX1_nextCell_49 (lv_at hl 0 rfl) ?_
                  refine lv_iconst (v := (-1)) hx hb dX1_nextCell_51 (by decide) ?_
                  refine lv_icmp_eq (tgt := 70) hx hb dX1_nextCell_52 (by decide) (fun _ => ?_) (fun c => absurd c (by decide))
                  refine lv_iinc (v := nI (w + 1)) (lv' := [(6, .int (nI (w + 1))), (8, .int (-1)), (7, .int (nI c0)), (5, .int 64), (4, .int (-1)), (0, .ref (ja 1 0)), (1, .int (nI f)), (2, .int (nI g)), (3, .int x)]) hx hb dX1_nextCell_70 hl (k := 2) rfl (nI_inc _) (by decide) rfl (fun ls hl => ?_)
                  refine lv_goto (tgt := 10) hx hb dX1_nextCell_73 (by decide) ?_
                  exact ih1 (w + 1) none (by omega) ((bst_skip (nbF_d hnb hdS)).trans hB) ls (by omega) (lv_sub hl [0, 3, 4, 5, 6, 7, 8] rfl)
                · have hdS := hrec.trans hd
                  have hd64 : d < 64 := dS_64 h9g hc0 hdS
                  refine top_i (y := nI d) rfl ?_
                  refine lv_istore (lv' := [(8, .int (nI d)), (7, .int (nI c0)), (6, .int (nI w)), (5, .int 64), (4, .int (-1)), (0, .ref (ja 1 0)), (1, .int (nI f)), (2, .int (nI g)), (3, .int x)]) hx hb dX1_nextCell_47 hl (by decide) rfl (fun ls hl => ?_)
                  refine lv_iload hx hb dX1_nextCell_49 (lv_at hl 0 rfl) ?_
                  refine lv_iconst (v := (-1)) hx hb dX1_nextCell_51 (by decide) ?_
                  refine lv_icmp_eq (tgt := 70) hx hb dX1_nextCell_52 (by decide) (fun c => absurd c (nI_m1 (by omega))) (fun _ => ?_)
                  refine lv_iload hx hb dX1_nextCell_55 (lv_at hl 0 rfl) ?_
                  refine lv_iload hx hb dX1_nextCell_57 (lv_at hl 3 rfl) ?_
                  refine ln_ge (tgt := 70) (a := d) (b := 64) hx hb dX1_nextCell_59 (by decide) rfl rfl (by omega) (by omega) (fun c_8t => ?_) (fun c_8f => ?_)
                  · exact absurd c_8t (by omega)
                  · refine lv_iload hx hb dX1_nextCell_62 (lv_at hl 1 rfl) ?_
                    refine lv_istore (lv' := [(4, .int (nI c0)), (8, .int (nI d)), (7, .int (nI c0)), (6, .int (nI w)), (5, .int 64), (0, .ref (ja 1 0)), (1, .int (nI f)), (2, .int (nI g)), (3, .int x)]) hx hb dX1_nextCell_64 hl (by decide) rfl (fun ls hl => ?_)
                    refine lv_iload hx hb dX1_nextCell_66 (lv_at hl 1 rfl) ?_
                    refine lv_istore (lv' := [(5, .int (nI d)), (4, .int (nI c0)), (8, .int (nI d)), (7, .int (nI c0)), (6, .int (nI w)), (0, .ref (ja 1 0)), (1, .int (nI f)), (2, .int (nI g)), (3, .int x)]) hx hb dX1_nextCell_68 hl (by decide) rfl (fun ls hl => ?_)
                    refine lv_iinc (v := nI (w + 1)) (lv' := [(6, .int (nI (w + 1))), (5, .int (nI d)), (4, .int (nI c0)), (8, .int (nI d)), (7, .int (nI c0)), (0, .ref (ja 1 0)), (1, .int (nI f)), (2, .int (nI g)), (3, .int x)]) hx hb dX1_nextCell_70 hl (k := 4) rfl (nI_inc _) (by decide) rfl (fun ls hl => ?_)
                    refine lv_goto (tgt := 10) hx hb dX1_nextCell_73 (by decide) ?_
                    exact ih1 (w + 1) (some (c0, d)) (by omega) (bst_new (nbF_s hnb hdS) hB) ls (by omega) (lv_sub hl [0, 1, 2, 5, 6, 7, 8] rfl)
      · have hl : lv_has ls 9 [(6, .int (nI w)), (5, .int (nI p2)), (4, .int (nI p1)), (0, .ref (ja 1 0)), (1, .int (nI f)), (2, .int (nI g)), (3, .int x)] := hl
        have hp2 : p2 < 64 := by have k_ := bst_nb h9f hw hB; exact dS_64 h9g k_.1 k_.2
        refine lv_iload hx hb dX1_nextCell_10 (lv_at hl 0 rfl) ?_
        refine lv_iconst (v := 4) hx hb dX1_nextCell_12 (by decide) ?_
        refine ln_ge (tgt := 76) (a := w) (b := 4) hx hb dX1_nextCell_13 (by decide) rfl rfl (by omega) (by omega) (fun c_9t => ?_) (fun c_9f => ?_)
        · refine lv_iload hx hb dX1_nextCell_76 (lv_at hl 2 rfl) ?_
          subst hQ
          exact rt_i hx hb hr hlk (by unfold nrst; rw [show (4 : Nat) = w by omega, hB]; rfl) dX1_nextCell_78
        · refine lv_iload_n hx hb dX1_nextCell_16 rfl (lv_at hl 4 rfl) ?_
          refine lv_iload hx hb dX1_nextCell_17 (lv_at hl 0 rfl) ?_
          refine cl_p (run_S hC (cJ_X1_neighbour l f w (by omega) (by omega)) (As := [.int (nI f), .int (nI w)]) (rest := []) rfl rfl ml_X1_39 sm_X1_neighbour ini_X1 cd_X1_neighbour na_X1_neighbour tB_blind (fun _ _ _ => trivial) hl.1 (Nat.le_of_ble_eq_true rfl) ⟨Nat.le_of_ble_eq_true rfl, Nat.le_of_ble_eq_true rfl⟩ ⟨Nat.le_refl _, Nat.le_refl _⟩ rfl dX1_nextCell_19) ?_
          rcases hnb : nbr f w with _ | c0
          · refine top_i (y := -1) rfl ?_
            refine lv_istore (lv' := [(7, .int (-1)), (6, .int (nI w)), (5, .int (nI p2)), (4, .int (nI p1)), (0, .ref (ja 1 0)), (1, .int (nI f)), (2, .int (nI g)), (3, .int x)]) hx hb dX1_nextCell_22 hl (by decide) rfl (fun ls hl => ?_)
            refine lv_aload_n hx hb dX1_nextCell_24 rfl (lv_at hl 4 rfl) ?_
            refine lv_iload hx hb dX1_nextCell_25 (lv_at hl 0 rfl) ?_
            refine cl_pi (x := 0) (run_V hC (cJ_X1_isOpen l G d0 mi Rf ja M E none (fun j hj => by cases hj)) (As := [.int (-1)]) (rest := []) rfl rfl ml_X1_43 im_X1_isOpen se_X1_isOpen ini_X1 cd_X1_isOpen ⟨rfl, na_X1_isOpen⟩ jB_blind (hW.recv hK (show jV M 1 0 from rfl) rfl) (jB_at hX hRf hW hS) hl.1 (Nat.le_of_ble_eq_true rfl) ⟨Nat.le_of_ble_eq_true rfl, Nat.le_of_ble_eq_true rfl⟩ ⟨Nat.le_refl _, Nat.le_refl _⟩ rfl dX1_nextCell_27) (rfl) ?_
            refine lv_if_eq (tgt := 70) hx hb dX1_nextCell_30 (by decide) (fun _ => ?_) (fun c => absurd c (by decide))
            refine lv_iinc (v := nI (w + 1)) (lv' := [(6, .int (nI (w + 1))), (7, .int (-1)), (5, .int (nI p2)), (4, .int (nI p1)), (0, .ref (ja 1 0)), (1, .int (nI f)), (2, .int (nI g)), (3, .int x)]) hx hb dX1_nextCell_70 hl (k := 1) rfl (nI_inc _) (by decide) rfl (fun ls hl => ?_)
            refine lv_goto (tgt := 10) hx hb dX1_nextCell_73 (by decide) ?_
            exact ih1 (w + 1) (some (p1, p2)) (by omega) ((bst_skip (nbF_n hnb)).trans hB) ls (by omega) (lv_sub hl [0, 2, 3, 4, 5, 6, 7] rfl)
          · have hc0 := nbr_lt f h9f w (by omega) c0 hnb
            refine top_i (y := nI c0) rfl ?_
            refine lv_istore (lv' := [(7, .int (nI c0)), (6, .int (nI w)), (5, .int (nI p2)), (4, .int (nI p1)), (0, .ref (ja 1 0)), (1, .int (nI f)), (2, .int (nI g)), (3, .int x)]) hx hb dX1_nextCell_22 hl (by decide) rfl (fun ls hl => ?_)
            refine lv_aload_n hx hb dX1_nextCell_24 rfl (lv_at hl 4 rfl) ?_
            refine lv_iload hx hb dX1_nextCell_25 (lv_at hl 0 rfl) ?_
            refine cl_pi (x := bI (opE M E c0)) (run_V hC (cJ_X1_isOpen l G d0 mi Rf ja M E (some c0) (fun j hj => by cases hj; exact hc0)) (As := [.int (nI c0)]) (rest := []) rfl rfl ml_X1_43 im_X1_isOpen se_X1_isOpen ini_X1 cd_X1_isOpen ⟨rfl, na_X1_isOpen⟩ jB_blind (hW.recv hK (show jV M 1 0 from rfl) rfl) (jB_at hX hRf hW hS) hl.1 (Nat.le_of_ble_eq_true rfl) ⟨Nat.le_of_ble_eq_true rfl, Nat.le_of_ble_eq_true rfl⟩ ⟨Nat.le_refl _, Nat.le_refl _⟩ rfl dX1_nextCell_27) (rfl) ?_
            refine lb_eq (tgt := 70) (b := (opE M E c0)) hx hb dX1_nextCell_30 (by decide) (fun c_11t => ?_) (fun c_11f => ?_)
            · refine lv_iinc (v := nI (w + 1)) (lv' := [(6, .int (nI (w + 1))), (7, .int (nI c0)), (5, .int (nI p2)), (4, .int (nI p1)), (0, .ref (ja 1 0)), (1, .int (nI f)), (2, .int (nI g)), (3, .int x)]) hx hb dX1_nextCell_70 hl (k := 1) rfl (nI_inc _) (by decide) rfl (fun ls hl => ?_)
              refine lv_goto (tgt := 10) hx hb dX1_nextCell_73 (by decide) ?_
              exact ih1 (w + 1) (some (p1, p2)) (by omega) ((bst_skip (nbF_d hnb (dS_closed (by unfold frE; rw [c_11t, Bool.false_and])))).trans hB) ls (by omega) (lv_sub hl [0, 2, 3, 4, 5, 6, 7] rfl)
            · refine lv_iload hx hb dX1_nextCell_33 (lv_at hl 0 rfl) ?_
              refine lv_iload_n hx hb dX1_nextCell_35 rfl (lv_at hl 7 rfl) ?_
              refine lv_icmp_eq (tgt := 70) hx hb dX1_nextCell_36 (by decide) (fun c_12t => ?_) (fun c_12f => ?_)
              · refine lv_iinc (v := nI (w + 1)) (lv' := [(6, .int (nI (w + 1))), (7, .int (nI c0)), (5, .int (nI p2)), (4, .int (nI p1)), (0, .ref (ja 1 0)), (1, .int (nI f)), (2, .int (nI g)), (3, .int x)]) hx hb dX1_nextCell_70 hl (k := 1) rfl (nI_inc _) (by decide) rfl (fun ls hl => ?_)
                refine lv_goto (tgt := 10) hx hb dX1_nextCell_73 (by decide) ?_
                exact ih1 (w + 1) (some (p1, p2)) (by omega) ((bst_skip (nbF_d hnb (dS_closed (by unfold frE one_; rw [decide_eq_true c_12t]; simp)))).trans hB) ls (by omega) (lv_sub hl [0, 2, 3, 4, 5, 6, 7] rfl)
              · have hfr : (frE M E x) c0 = true := by unfold frE one_; rw [c_11f, decide_eq_false c_12f]; rfl
                have hrec := dS_rec h9g hc0 hfr
                refine lv_aload_n hx hb dX1_nextCell_39 rfl (lv_at hl 4 rfl) ?_
                refine lv_iload hx hb dX1_nextCell_40 (lv_at hl 0 rfl) ?_
                refine lv_iload_n hx hb dX1_nextCell_42 rfl (lv_at hl 6 rfl) ?_
                refine lv_iload_n hx hb dX1_nextCell_43 rfl (lv_at hl 7 rfl) ?_
                refine cl_p (run_V hC (cJ_X1_stepsBetween l G d0 mi Rf ja M E c0 g x (by omega) (by omega)) (As := [.int (nI c0), .int (nI g), .int x]) (rest := []) rfl rfl ml_X1_47 im_X1_stepsBetween se_X1_stepsBetween ini_X1 cd_X1_stepsBetween ⟨rfl, na_X1_stepsBetween⟩ jB_blind (hW.recv hK (show jV M 1 0 from rfl) rfl) (jB_at hX hRf hW hS) hl.1 (Nat.le_of_ble_eq_true rfl) ⟨Nat.le_of_ble_eq_true rfl, Nat.le_of_ble_eq_true rfl⟩ ⟨Nat.le_refl _, Nat.le_refl _⟩ rfl dX1_nextCell_44) ?_
                rcases hd : dG (frE M E x) c0 g with _ | d
                · refine top_i (y := -1) rfl ?_
                  have hdS := hrec.trans hd
                  refine lv_istore (lv' := [(8, .int (-1)), (7, .int (nI c0)), (6, .int (nI w)), (5, .int (nI p2)), (4, .int (nI p1)), (0, .ref (ja 1 0)), (1, .int (nI f)), (2, .int (nI g)), (3, .int x)]) hx hb dX1_nextCell_47 hl (by decide) rfl (fun ls hl => ?_)
                  refine lv_iload hx hb dX1_nextCell_49 (lv_at hl 0 rfl) ?_
                  refine lv_iconst (v := (-1)) hx hb dX1_nextCell_51 (by decide) ?_
                  refine lv_icmp_eq (tgt := 70) hx hb dX1_nextCell_52 (by decide) (fun _ => ?_) (fun c => absurd c (by decide))
                  refine lv_iinc (v := nI (w + 1)) (lv' := [(6, .int (nI (w + 1))), (8, .int (-1)), (7, .int (nI c0)), (5, .int (nI p2)), (4, .int (nI p1)), (0, .ref (ja 1 0)), (1, .int (nI f)), (2, .int (nI g)), (3, .int x)]) hx hb dX1_nextCell_70 hl (k := 2) rfl (nI_inc _) (by decide) rfl (fun ls hl => ?_)
                  refine lv_goto (tgt := 10) hx hb dX1_nextCell_73 (by decide) ?_
                  exact ih1 (w + 1) (some (p1, p2)) (by omega) ((bst_skip (nbF_d hnb hdS)).trans hB) ls (by omega) (lv_sub hl [0, 3, 4, 5, 6, 7, 8] rfl)
                · have hdS := hrec.trans hd
                  have hd64 : d < 64 := dS_64 h9g hc0 hdS
                  refine top_i (y := nI d) rfl ?_
                  refine lv_istore (lv' := [(8, .int (nI d)), (7, .int (nI c0)), (6, .int (nI w)), (5, .int (nI p2)), (4, .int (nI p1)), (0, .ref (ja 1 0)), (1, .int (nI f)), (2, .int (nI g)), (3, .int x)]) hx hb dX1_nextCell_47 hl (by decide) rfl (fun ls hl => ?_)
                  refine lv_iload hx hb dX1_nextCell_49 (lv_at hl 0 rfl) ?_
                  refine lv_iconst (v := (-1)) hx hb dX1_nextCell_51 (by decide) ?_
                  refine lv_icmp_eq (tgt := 70) hx hb dX1_nextCell_52 (by decide) (fun c => absurd c (nI_m1 (by omega))) (fun _ => ?_)
                  refine lv_iload hx hb dX1_nextCell_55 (lv_at hl 0 rfl) ?_
                  refine lv_iload hx hb dX1_nextCell_57 (lv_at hl 3 rfl) ?_
                  refine ln_ge (tgt := 70) (a := d) (b := p2) hx hb dX1_nextCell_59 (by decide) rfl rfl (by omega) (by omega) (fun c_15t => ?_) (fun c_15f => ?_)
                  · refine lv_iinc (v := nI (w + 1)) (lv' := [(6, .int (nI (w + 1))), (8, .int (nI d)), (7, .int (nI c0)), (5, .int (nI p2)), (4, .int (nI p1)), (0, .ref (ja 1 0)), (1, .int (nI f)), (2, .int (nI g)), (3, .int x)]) hx hb dX1_nextCell_70 hl (k := 2) rfl (nI_inc _) (by decide) rfl (fun ls hl => ?_)
                    refine lv_goto (tgt := 10) hx hb dX1_nextCell_73 (by decide) ?_
                    exact ih1 (w + 1) (some (p1, p2)) (by omega) ((bst_ge (nbF_s hnb hdS) hB (by show ¬ d < p2; omega))) ls (by omega) (lv_sub hl [0, 3, 4, 5, 6, 7, 8] rfl)
                  · refine lv_iload hx hb dX1_nextCell_62 (lv_at hl 1 rfl) ?_
                    refine lv_istore (lv' := [(4, .int (nI c0)), (8, .int (nI d)), (7, .int (nI c0)), (6, .int (nI w)), (5, .int (nI p2)), (0, .ref (ja 1 0)), (1, .int (nI f)), (2, .int (nI g)), (3, .int x)]) hx hb dX1_nextCell_64 hl (by decide) rfl (fun ls hl => ?_)
                    refine lv_iload hx hb dX1_nextCell_66 (lv_at hl 1 rfl) ?_
                    refine lv_istore (lv' := [(5, .int (nI d)), (4, .int (nI c0)), (8, .int (nI d)), (7, .int (nI c0)), (6, .int (nI w)), (0, .ref (ja 1 0)), (1, .int (nI f)), (2, .int (nI g)), (3, .int x)]) hx hb dX1_nextCell_68 hl (by decide) rfl (fun ls hl => ?_)
                    refine lv_iinc (v := nI (w + 1)) (lv' := [(6, .int (nI (w + 1))), (5, .int (nI d)), (4, .int (nI c0)), (8, .int (nI d)), (7, .int (nI c0)), (0, .ref (ja 1 0)), (1, .int (nI f)), (2, .int (nI g)), (3, .int x)]) hx hb dX1_nextCell_70 hl (k := 4) rfl (nI_inc _) (by decide) rfl (fun ls hl => ?_)
                    refine lv_goto (tgt := 10) hx hb dX1_nextCell_73 (by decide) ?_
                    exact ih1 (w + 1) (some (c0, d)) (by omega) (bst_lt (nbF_s hnb hdS) hB (by show d < p2; omega)) ls (by omega) (lv_sub hl [0, 1, 2, 5, 6, 7, 8] rfl)
  exact loop1 ((4 - 0) + 1) 0 none (Nat.zero_le _) rfl ls (by omega) (lv_sub hl [0, 1, 2, 3, 4, 5, 6] rfl)
