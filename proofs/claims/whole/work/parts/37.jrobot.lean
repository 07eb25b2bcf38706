/-! ROBOTS -/
def bcM (M : MS) (r : Nat) (x : Int32) : MS := mset (mset (mset M 20 r x) 24 r (-1)) 23 r (-1)
def mtM (M : MS) (r : Nat) (x : Int32) : MS := mset (mset (mset M 18 r x) 24 r (-1)) 23 r (-1)
def asE (M : MS) (E : ES) (r : Nat) (x t : Int32) : ES := if x = M 24 r then E else eS_ E (upd (eS E) r t)
def lvM (M : MS) (r : Nat) : MS := if M 20 r = 1 then bcM (mset (mset M 22 r (-1)) 21 r (-1)) r 0 else bcM (mset M 22 r (-1)) r 4
def dwM (M : MS) (r : Nat) : MS := if M 20 r = 1 then bcM (mset (mset M 22 r (-1)) 21 r (-1)) r 5 else bcM (mset M 22 r (-1)) r 5
def rgM_ (M : MS) (r : Nat) : MS := if M 20 r = 1 then bcM M r 2 else if M 20 r = 2 then bcM M r 3 else if M 20 r = 4 then bcM (mset M 21 r (-1)) r 0 else M
def gol (M : MS) (r : Nat) : Int32 := if M 20 r = 1 ∨ M 20 r = 4 then (if M 21 r = -1 then -1 else M 7 (ix (M 21 r))) else if M 22 r = -1 then -1 else if M 14 (ix (M 22 r)) = -1 then -1 else M 5 (ix (M 14 (ix (M 22 r))))
def gbB (M : MS) (E : ES) (a b : Nat) : Bool := decide (eS E a < eS E b) || (decide (eS E a = eS E b) && abvB M a b)
theorem bI_1 {b : Bool} (h : b = true) : 1 = bI b := by rw [h]; rfl
theorem bI_0 {b : Bool} (h : b = false) : 0 = bI b := by rw [h]; rfl
theorem lastE_one {f : Nat → Int32} {x : Int32} {n i : Nat} (hi : i < n) (h : f i = x) (hu : ∀ k, k < n → f k = x → k = i) : lastE f x n = some i := by
  cases e : lastE f x n with
  | none => exact absurd h (lastE_none.mp e i hi)
  | some k =>
    have := lastE_lt e
    rw [hu k this.1 this.2]
def rtA (M : MS) (t : Nat) : Option Nat := lastE (M 21) (nI t) (nR M)
def wlA (M : MS) (k : Nat) : Option Nat := lastE (M 22) (nI k) (nR M)
/-- cells apart, trays apart, lines apart -/
def uq18 (M : MS) : Prop := ∀ a b, a < nR M → b < nR M → M 18 a = M 18 b → a = b
def uq21 (M : MS) : Prop := ∀ a b, a < nR M → b < nR M → M 21 a = M 21 b → M 21 a ≠ -1 → a = b
def uq22 (M : MS) : Prop := ∀ a b, a < nR M → b < nR M → M 22 a = M 22 b → M 22 a ≠ -1 → a = b
theorem uq22_of {M : MS} (h : INVr M) : uq22 M := fun a b ha hb e n => h.2.2.2 a b ha hb n (by rw [← e]; exact n) (by rw [e])
def carA (M : MS) (t : Nat) : Option Nat := match rtA M t with
  | none => none
  | some r => if M 20 r = 1 then none else some r
def hD_ (M : MS) (E : ES) : Prop := ∀ q, q < 64 → opE M E q = opnB M q
theorem frE_X {M : MS} {E : ES} (h : hD_ M E) (x : Int32) : ∀ q, q < 64 → frE M E x q = frX M x q := fun q hq => by
  unfold frE frX one_
  rw [h q hq]
  by_cases e : nI q = x
  · rw [decide_eq_true e, decide_eq_false (fun z => z e)]; rfl
  · rw [decide_eq_false e, decide_eq_true e]; rfl
theorem dG_X {M : MS} {E : ES} (h : hD_ M E) {f t : Nat} (hf : f < 64) (ht : t < 64) : dG (frE M E (-1)) f t = dGM M f t := dG_cg hf ht (frE_X h (-1))
theorem nxV_X {M : MS} {E : ES} (h : hD_ M E) (x : Int32) {g f : Nat} (hf : f < 64) (hg : g < 64) : oI ((nrst (dS (frE M E x) g) f).map (fun q => q.1)) = nearV M x g f := by
  unfold nearV
  rw [nrst_cg hf (fun c hc => dS_cg hg hc (frE_X h x))]
set_option maxHeartbeats 4000000 in
set_option maxRecDepth 100000 in
theorem cJ_X5_forgetAsking (l : Launch) (G : gG) (d0 mi : Nat) (Rf : Nat → Prop) (ja : Nat → Nat → Nat) (M : MS) (E : ES) (r : Nat) (h_r : r < nR M) : Met l yX5_forgetAsking (wB yX5_forgetAsking cX5_forgetAsking 1 none) (rmL 0 0 0) (va_Pc [.ref (ja 5 r)] (jB G d0 mi Rf ja M E)) (va_Qv (S := Unit) (fun _ => True) (fun _ z9 => WJ G d0 Rf ja (mset (mset M 24 r (-1)) 23 r (-1)) (E) z9.heap) (jA Rf)) 0 0 (jA Rf) := by
  refine st_N (own := RX5) (by decide +kernel) rfl (Nat.le_of_ble_eq_true rfl) ?_
  intro p e s m below meth c ls args Q hQ hC hr hlk hnm hl hP
  obtain ⟨hW, hX, hRf⟩ := hP
  have hK := hX.1
  have hx := hC.1
  have hb := hC.2.1
  have hl : lv_has ls 1 [(0, .ref (ja 5 r))] := hl
  obtain ⟨H, locs, hHe, hLe⟩ : ∃ (H : Heap) (locs : List Loc), H = s.heap ∧ locs = [] := ⟨_, _, rfl, rfl⟩
  rw [← hHe] at hW
  have hS : va_S (jA Rf) s.heap H locs := by rw [hHe, hLe]; exact va_S.rf
  suffices hgo : W p l e (rmL 0 0 0) s m args below meth c H locs 0 0 Q (F0 m 0 ls []) by
    rw [hHe, hLe] at hgo
    exact hgo
  clear hHe hLe
  refine lv_aload_n hx hb dX5_forgetAsking_0 rfl (lv_at hl 0 rfl) ?_
  refine lv_iconst (v := (-1)) hx hb dX5_forgetAsking_1 (by decide) ?_
  refine jp_r24 hC hK hW hS (show r < nR M from h_r) fl_X5_23 dX5_forgetAsking_2 (fun H locs hW hS => ?_)
  refine lv_aload_n hx hb dX5_forgetAsking_5 rfl (lv_at hl 0 rfl) ?_
  refine lv_iconst (v := (-1)) hx hb dX5_forgetAsking_6 (by decide) ?_
  refine jp_r23 hC hK hW hS (show r < nR (mset M 24 r (-1)) from h_r) fl_X5_29 dX5_forgetAsking_7 (fun H locs hW hS => ?_)
  subst hQ
  exact rt_qv () hx hb hr hlk hS (trivial) (fun t ht _ => by show WJ G d0 Rf ja _ _ t.heap; rw [ht]; exact hW) (by show 0 ≤ 0; omega) (by show 0 ≤ 0; omega) dX5_forgetAsking_10
set_option maxHeartbeats 4000000 in
set_option maxRecDepth 100000 in
theorem cJ_X5_become (l : Launch) (G : gG) (d0 mi : Nat) (Rf : Nat → Prop) (ja : Nat → Nat → Nat) (M : MS) (E : ES) (r : Nat) (x : Int32) (h_r : r < nR M) : Met l yX5_become (wB yX5_become cX5_become 2 none) (rmL 1 0 0) (va_Pc [.ref (ja 5 r), .int x] (jB G d0 mi Rf ja M E)) (va_Qv (S := Unit) (fun _ => True) (fun _ z9 => WJ G d0 Rf ja (bcM M r x) (E) z9.heap) (jA Rf)) 0 0 (jA Rf) := by
  refine st_N (own := RX5) (by decide +kernel) rfl (Nat.le_of_ble_eq_true rfl) ?_
  intro p e s m below meth c ls args Q hQ hC hr hlk hnm hl hP
  obtain ⟨hW, hX, hRf⟩ := hP
  have hK := hX.1
  have hx := hC.1
  have hb := hC.2.1
  have hl : lv_has ls 2 [(0, .ref (ja 5 r)), (1, .int x)] := hl
  obtain ⟨H, locs, hHe, hLe⟩ : ∃ (H : Heap) (locs : List Loc), H = s.heap ∧ locs = [] := ⟨_, _, rfl, rfl⟩
  rw [← hHe] at hW
  have hS : va_S (jA Rf) s.heap H locs := by rw [hHe, hLe]; exact va_S.rf
  suffices hgo : W p l e (rmL 1 0 0) s m args below meth c H locs 0 0 Q (F0 m 0 ls []) by
    rw [hHe, hLe] at hgo
    exact hgo
  clear hHe hLe
  refine lv_aload_n hx hb dX5_become_0 rfl (lv_at hl 0 rfl) ?_
  refine lv_iload_n hx hb dX5_become_1 rfl (lv_at hl 1 rfl) ?_
  refine jp_r20 hC hK hW hS (show r < nR M from h_r) fl_X5_9 dX5_become_2 (fun H locs hW hS => ?_)
  refine lv_aload_n hx hb dX5_become_5 rfl (lv_at hl 0 rfl) ?_
  refine jcl_v (run_V hC (cJ_X5_forgetAsking l G d0 mi Rf ja (mset M 20 r x) E r (show r < nR (mset M 20 r x) from h_r)) (As := []) (rest := []) rfl rfl ml_X5_59 im_X5_forgetAsking se_X5_forgetAsking ini_X5 cd_X5_forgetAsking ⟨rfl, na_X5_forgetAsking⟩ jB_blind (hW.recv hK (show jV (mset M 20 r x) 5 r from h_r) rfl) (jB_at hX hRf hW hS) hl.1 (Nat.le_of_ble_eq_true rfl) ⟨Nat.le_of_ble_eq_true rfl, Nat.le_of_ble_eq_true rfl⟩ ⟨Nat.le_refl _, Nat.le_refl _⟩ rfl dX5_become_6) hS (fun H locs hW hS => ?_)
  subst hQ
  rw [show (mset (mset (mset M 20 r x) 24 r (-1)) 23 r (-1)) = bcM M r x from rfl] at hW
  exact rt_qv () hx hb hr hlk hS (trivial) (fun t ht _ => by show WJ G d0 Rf ja _ _ t.heap; rw [ht]; exact hW) (by show 0 ≤ 0; omega) (by show 0 ≤ 0; omega) dX5_become_9
set_option maxHeartbeats 4000000 in
set_option maxRecDepth 100000 in
theorem cJ_X5_moveTo (l : Launch) (G : gG) (d0 mi : Nat) (Rf : Nat → Prop) (ja : Nat → Nat → Nat) (M : MS) (E : ES) (r : Nat) (x : Int32) (h_r : r < nR M) : Met l yX5_moveTo (wB yX5_moveTo cX5_moveTo 2 none) (rmL 1 0 0) (va_Pc [.ref (ja 5 r), .int x] (jB G d0 mi Rf ja M E)) (va_Qv (S := Unit) (fun _ => True) (fun _ z9 => WJ G d0 Rf ja (mtM M r x) (E) z9.heap) (jA Rf)) 0 0 (jA Rf) := by
  refine st_N (own := RX5) (by decide +kernel) rfl (Nat.le_of_ble_eq_true rfl) ?_
  intro p e s m below meth c ls args Q hQ hC hr hlk hnm hl hP
  obtain ⟨hW, hX, hRf⟩ := hP
  have hK := hX.1
  have hx := hC.1
  have hb := hC.2.1
  have hl : lv_has ls 2 [(0, .ref (ja 5 r)), (1, .int x)] := hl
  obtain ⟨H, locs, hHe, hLe⟩ : ∃ (H : Heap) (locs : List Loc), H = s.heap ∧ locs = [] := ⟨_, _, rfl, rfl⟩
  rw [← hHe] at hW
  have hS : va_S (jA Rf) s.heap H locs := by rw [hHe, hLe]; exact va_S.rf
  suffices hgo : W p l e (rmL 1 0 0) s m args below meth c H locs 0 0 Q (F0 m 0 ls []) by
    rw [hHe, hLe] at hgo
    exact hgo
  clear hHe hLe
  refine lv_aload_n hx hb dX5_moveTo_0 rfl (lv_at hl 0 rfl) ?_
  refine lv_iload_n hx hb dX5_moveTo_1 rfl (lv_at hl 1 rfl) ?_
  refine jp_r18 hC hK hW hS (show r < nR M from h_r) fl_X5_35 dX5_moveTo_2 (fun H locs hW hS => ?_)
  refine lv_aload_n hx hb dX5_moveTo_5 rfl (lv_at hl 0 rfl) ?_
  refine jcl_v (run_V hC (cJ_X5_forgetAsking l G d0 mi Rf ja (mset M 18 r x) E r (show r < nR (mset M 18 r x) from h_r)) (As := []) (rest := []) rfl rfl ml_X5_59 im_X5_forgetAsking se_X5_forgetAsking ini_X5 cd_X5_forgetAsking ⟨rfl, na_X5_forgetAsking⟩ jB_blind (hW.recv hK (show jV (mset M 18 r x) 5 r from h_r) rfl) (jB_at hX hRf hW hS) hl.1 (Nat.le_of_ble_eq_true rfl) ⟨Nat.le_of_ble_eq_true rfl, Nat.le_of_ble_eq_true rfl⟩ ⟨Nat.le_refl _, Nat.le_refl _⟩ rfl dX5_moveTo_6) hS (fun H locs hW hS => ?_)
  subst hQ
  rw [show (mset (mset (mset M 18 r x) 24 r (-1)) 23 r (-1)) = mtM M r x from rfl] at hW
  exact rt_qv () hx hb hr hlk hS (trivial) (fun t ht _ => by show WJ G d0 Rf ja _ _ t.heap; rw [ht]; exact hW) (by show 0 ≤ 0; omega) (by show 0 ≤ 0; omega) dX5_moveTo_9
set_option maxHeartbeats 4000000 in
set_option maxRecDepth 100000 in
theorem cJ_X5_askFor (l : Launch) (G : gG) (d0 mi : Nat) (Rf : Nat → Prop) (ja : Nat → Nat → Nat) (M : MS) (E : ES) (r : Nat) (x : Int32) (t : Int32) (h_r : r < nR M) : Met l yX5_askFor (wB yX5_askFor cX5_askFor 3 none) (rmL 0 0 0) (va_Pc [.ref (ja 5 r), .int x, .int t] (jB G d0 mi Rf ja M E)) (va_Qv (S := Unit) (fun _ => True) (fun _ z9 => WJ G d0 Rf ja (mset M 24 r x) (asE M E r x t) z9.heap) (jA Rf)) 0 0 (jA Rf) := by
  refine st_N (own := RX5) (by decide +kernel) rfl (Nat.le_of_ble_eq_true rfl) ?_
  intro p e s m below meth c ls args Q hQ hC hr hlk hnm hl hP
  obtain ⟨hW, hX, hRf⟩ := hP
  have hK := hX.1
  have hx := hC.1
  have hb := hC.2.1
  have hl : lv_has ls 3 [(0, .ref (ja 5 r)), (1, .int x), (2, .int t)] := hl
  obtain ⟨H, locs, hHe, hLe⟩ : ∃ (H : Heap) (locs : List Loc), H = s.heap ∧ locs = [] := ⟨_, _, rfl, rfl⟩
  rw [← hHe] at hW
  have hS : va_S (jA Rf) s.heap H locs := by rw [hHe, hLe]; exact va_S.rf
  suffices hgo : W p l e (rmL 0 0 0) s m args below meth c H locs 0 0 Q (F0 m 0 ls []) by
    rw [hHe, hLe] at hgo
    exact hgo
  clear hHe hLe
  refine lv_iload_n hx hb dX5_askFor_0 rfl (lv_at hl 1 rfl) ?_
  refine lv_aload_n hx hb dX5_askFor_1 rfl (lv_at hl 0 rfl) ?_
  refine r1_get hC hK.1 (hW.ob (show jV M 5 r from h_r)) lay_X5 rfl 6 (by decide) fl_X5_23 (fun x hx => hx) (v := .int (M 24 r)) rfl dX5_askFor_2 ?_
  refine lv_icmp_eq (tgt := 13) hx hb dX5_askFor_5 (by decide) (fun c_1t => ?_) (fun c_1f => ?_)
  · refine lv_aload_n hx hb dX5_askFor_13 rfl (lv_at hl 0 rfl) ?_
    refine lv_iload_n hx hb dX5_askFor_14 rfl (lv_at hl 1 rfl) ?_
    refine jp_r24 hC hK hW hS (show r < nR M from h_r) fl_X5_23 dX5_askFor_15 (fun H locs hW hS => ?_)
    subst hQ
    rw [show E = asE M E r x t from (if_pos c_1t).symm] at hW
    exact rt_qv () hx hb hr hlk hS (trivial) (fun t ht _ => by show WJ G d0 Rf ja _ _ t.heap; rw [ht]; exact hW) (by show 0 ≤ 0; omega) (by show 0 ≤ 0; omega) dX5_askFor_18
  · refine lv_aload_n hx hb dX5_askFor_8 rfl (lv_at hl 0 rfl) ?_
    refine lv_iload_n hx hb dX5_askFor_9 rfl (lv_at hl 2 rfl) ?_
    refine jp_as hC hK hW hS (show r < nR M from h_r) fl_X5_26 dX5_askFor_10 (fun H locs hW hS => ?_)
    refine lv_aload_n hx hb dX5_askFor_13 rfl (lv_at hl 0 rfl) ?_
    refine lv_iload_n hx hb dX5_askFor_14 rfl (lv_at hl 1 rfl) ?_
    refine jp_r24 hC hK hW hS (show r < nR M from h_r) fl_X5_23 dX5_askFor_15 (fun H locs hW hS => ?_)
    subst hQ
    rw [show (eS_ E (upd (eS E) r t)) = asE M E r x t from (if_neg c_1f).symm] at hW
    exact rt_qv () hx hb hr hlk hS (trivial) (fun t ht _ => by show WJ G d0 Rf ja _ _ t.heap; rw [ht]; exact hW) (by show 0 ≤ 0; omega) (by show 0 ≤ 0; omega) dX5_askFor_18
set_option maxHeartbeats 4000000 in
set_option maxRecDepth 100000 in
theorem cJ_X5_yieldTo (l : Launch) (G : gG) (d0 mi : Nat) (Rf : Nat → Prop) (ja : Nat → Nat → Nat) (M : MS) (E : ES) (r : Nat) (o : Nat) (h_r : r < nR M) (h_o : o < nR M) : Met l yX5_yieldTo (wB yX5_yieldTo cX5_yieldTo 2 none) (rmL 0 0 0) (va_Pc [.ref (ja 5 r), .ref (ja 5 o)] (jB G d0 mi Rf ja M E)) (va_Qv (S := Unit) (fun _ => True) (fun _ z9 => WJ G d0 Rf ja (mset (mset M 23 r (M 18 o)) 24 r (-1)) (E) z9.heap) (jA Rf)) 0 0 (jA Rf) := by
  refine st_N (own := RX5) (by decide +kernel) rfl (Nat.le_of_ble_eq_true rfl) ?_
  intro p e s m below meth c ls args Q hQ hC hr hlk hnm hl hP
  obtain ⟨hW, hX, hRf⟩ := hP
  have hK := hX.1
  have hx := hC.1
  have hb := hC.2.1
  have hl : lv_has ls 2 [(0, .ref (ja 5 r)), (1, .ref (ja 5 o))] := hl
  obtain ⟨H, locs, hHe, hLe⟩ : ∃ (H : Heap) (locs : List Loc), H = s.heap ∧ locs = [] := ⟨_, _, rfl, rfl⟩
  rw [← hHe] at hW
  have hS : va_S (jA Rf) s.heap H locs := by rw [hHe, hLe]; exact va_S.rf
  suffices hgo : W p l e (rmL 0 0 0) s m args below meth c H locs 0 0 Q (F0 m 0 ls []) by
    rw [hHe, hLe] at hgo
    exact hgo
  clear hHe hLe
  refine lv_aload_n hx hb dX5_yieldTo_0 rfl (lv_at hl 0 rfl) ?_
  refine lv_aload_n hx hb dX5_yieldTo_1 rfl (lv_at hl 1 rfl) ?_
  refine r1_get hC hK.1 (hW.ob (show jV M 5 o from h_o)) lay_X5 rfl 2 (by decide) fl_X5_35 (fun x hx => hx) (v := .int (M 18 o)) rfl dX5_yieldTo_2 ?_
  refine jp_r23 hC hK hW hS (show r < nR M from h_r) fl_X5_29 dX5_yieldTo_5 (fun H locs hW hS => ?_)
  refine lv_aload_n hx hb dX5_yieldTo_8 rfl (lv_at hl 0 rfl) ?_
  refine lv_iconst (v := (-1)) hx hb dX5_yieldTo_9 (by decide) ?_
  refine jp_r24 hC hK hW hS (show r < nR (mset M 23 r (M 18 o)) from h_r) fl_X5_23 dX5_yieldTo_10 (fun H locs hW hS => ?_)
  subst hQ
  exact rt_qv () hx hb hr hlk hS (trivial) (fun t ht _ => by show WJ G d0 Rf ja _ _ t.heap; rw [ht]; exact hW) (by show 0 ≤ 0; omega) (by show 0 ≤ 0; omega) dX5_yieldTo_13
set_option maxHeartbeats 4000000 in
set_option maxRecDepth 100000 in
theorem cJ_X5_fetch (l : Launch) (G : gG) (d0 mi : Nat) (Rf : Nat → Prop) (ja : Nat → Nat → Nat) (M : MS) (E : ES) (r : Nat) (t : Nat) (k : Nat) (h_r : r < nR M) (h_t : t < nT M) (h_k : VL M k = true) (ht6 : t < 2147483648) (hk6 : k < 2147483648) : Met l yX5_fetch (wB yX5_fetch cX5_fetch 3 none) (rmL 2 0 0) (va_Pc [.ref (ja 5 r), .ref (ja 7 t), .ref (ja 2 k)] (jB G d0 mi Rf ja M E)) (va_Qv (S := Unit) (fun _ => True) (fun _ z9 => WJ G d0 Rf ja (bcM (mset (mset M 21 r (nI t)) 22 r (nI k)) r 1) (E) z9.heap) (jA Rf)) 0 0 (jA Rf) := by
  refine st_N (own := RX5) (by decide +kernel) rfl (Nat.le_of_ble_eq_true rfl) ?_
  intro p e s m below meth c ls args Q hQ hC hr hlk hnm hl hP
  obtain ⟨hW, hX, hRf⟩ := hP
  have hK := hX.1
  have hx := hC.1
  have hb := hC.2.1
  have hl : lv_has ls 3 [(0, .ref (ja 5 r)), (1, .ref (ja 7 t)), (2, .ref (ja 2 k))] := hl
  obtain ⟨H, locs, hHe, hLe⟩ : ∃ (H : Heap) (locs : List Loc), H = s.heap ∧ locs = [] := ⟨_, _, rfl, rfl⟩
  rw [← hHe] at hW
  have hS : va_S (jA Rf) s.heap H locs := by rw [hHe, hLe]; exact va_S.rf
  suffices hgo : W p l e (rmL 2 0 0) s m args below meth c H locs 0 0 Q (F0 m 0 ls []) by
    rw [hHe, hLe] at hgo
    exact hgo
  clear hHe hLe
  refine lv_aload_n hx hb dX5_fetch_0 rfl (lv_at hl 0 rfl) ?_
  refine lv_aload_n hx hb dX5_fetch_1 rfl (lv_at hl 1 rfl) ?_
  refine jp_r21 hC hK hW hS (show r < nR M from h_r) (show t < nT M from h_t) (by omega) fl_X5_15 dX5_fetch_2 (fun H locs hW hS => ?_)
  refine lv_aload_n hx hb dX5_fetch_5 rfl (lv_at hl 0 rfl) ?_
  refine lv_aload_n hx hb dX5_fetch_6 rfl (lv_at hl 2 rfl) ?_
  refine jp_r22 hC hK hW hS (show r < nR (mset M 21 r (nI t)) from h_r) (show VL (mset M 21 r (nI t)) k = true from h_k) (by omega) fl_X5_19 dX5_fetch_7 (fun H locs hW hS => ?_)
  refine lv_aload_n hx hb dX5_fetch_10 rfl (lv_at hl 0 rfl) ?_
  refine lv_iconst (v := 1) hx hb dX5_fetch_11 (by decide) ?_
  refine jcl_v (run_V hC (cJ_X5_become l G d0 mi Rf ja (mset (mset M 21 r (nI t)) 22 r (nI k)) E r 1 (show r < nR (mset (mset M 21 r (nI t)) 22 r (nI k)) from h_r)) (As := [.int 1]) (rest := []) rfl rfl ml_X5_62 im_X5_become se_X5_become ini_X5 cd_X5_become ⟨rfl, na_X5_become⟩ jB_blind (hW.recv hK (show jV (mset (mset M 21 r (nI t)) 22 r (nI k)) 5 r from h_r) rfl) (jB_at hX hRf hW hS) hl.1 (Nat.le_of_ble_eq_true rfl) ⟨Nat.le_of_ble_eq_true rfl, Nat.le_of_ble_eq_true rfl⟩ ⟨Nat.le_refl _, Nat.le_refl _⟩ rfl dX5_fetch_12) hS (fun H locs hW hS => ?_)
  subst hQ
  rw [show (bcM (mset (mset M 21 r (nI t)) 22 r (nI k)) r 1) = bcM (mset (mset M 21 r (nI t)) 22 r (nI k)) r 1 from rfl] at hW
  exact rt_qv () hx hb hr hlk hS (trivial) (fun t ht _ => by show WJ G d0 Rf ja _ _ t.heap; rw [ht]; exact hW) (by show 0 ≤ 0; omega) (by show 0 ≤ 0; omega) dX5_fetch_15
set_option maxHeartbeats 4000000 in
set_option maxRecDepth 100000 in
theorem cJ_X5_leaveLine (l : Launch) (G : gG) (d0 mi : Nat) (Rf : Nat → Prop) (ja : Nat → Nat → Nat) (M : MS) (E : ES) (r : Nat) (h_r : r < nR M) : Met l yX5_leaveLine (wB yX5_leaveLine cX5_leaveLine 1 none) (rmL 2 0 0) (va_Pc [.ref (ja 5 r)] (jB G d0 mi Rf ja M E)) (va_Qv (S := Unit) (fun _ => True) (fun _ z9 => WJ G d0 Rf ja (lvM M r) (E) z9.heap) (jA Rf)) 0 0 (jA Rf) := by
  refine st_N (own := RX5) (by decide +kernel) rfl (Nat.le_of_ble_eq_true rfl) ?_
  intro p e s m below meth c ls args Q hQ hC hr hlk hnm hl hP
  obtain ⟨hW, hX, hRf⟩ := hP
  have hK := hX.1
  have hx := hC.1
  have hb := hC.2.1
  have hl : lv_has ls 1 [(0, .ref (ja 5 r))] := hl
  obtain ⟨H, locs, hHe, hLe⟩ : ∃ (H : Heap) (locs : List Loc), H = s.heap ∧ locs = [] := ⟨_, _, rfl, rfl⟩
  rw [← hHe] at hW
  have hS : va_S (jA Rf) s.heap H locs := by rw [hHe, hLe]; exact va_S.rf
  suffices hgo : W p l e (rmL 2 0 0) s m args below meth c H locs 0 0 Q (F0 m 0 ls []) by
    rw [hHe, hLe] at hgo
    exact hgo
  clear hHe hLe
  refine lv_aload_n hx hb dX5_leaveLine_0 rfl (lv_at hl 0 rfl) ?_
  refine lv_null hx hb dX5_leaveLine_1 ?_
  refine jp_r22n hC hK hW hS (show r < nR M from h_r) fl_X5_19 dX5_leaveLine_2 (fun H locs hW hS => ?_)
  refine lv_aload_n hx hb dX5_leaveLine_5 rfl (lv_at hl 0 rfl) ?_
  refine r1_get hC hK.1 (hW.ob (show jV (mset M 22 r (-1)) 5 r from h_r)) lay_X5 rfl 3 (by decide) fl_X5_9 (fun x hx => hx) (v := .int (M 20 r)) rfl dX5_leaveLine_6 ?_
  refine lv_iconst (v := 1) hx hb dX5_leaveLine_9 (by decide) ?_
  refine lv_icmp_ne (tgt := 26) hx hb dX5_leaveLine_10 (by decide) (fun c_1t => ?_) (fun c_1f => ?_)
  · refine lv_aload_n hx hb dX5_leaveLine_26 rfl (lv_at hl 0 rfl) ?_
    refine lv_iconst (v := 4) hx hb dX5_leaveLine_27 (by decide) ?_
    refine jcl_v (run_V hC (cJ_X5_become l G d0 mi Rf ja (mset M 22 r (-1)) E r 4 (show r < nR (mset M 22 r (-1)) from h_r)) (As := [.int 4]) (rest := []) rfl rfl ml_X5_62 im_X5_become se_X5_become ini_X5 cd_X5_become ⟨rfl, na_X5_become⟩ jB_blind (hW.recv hK (show jV (mset M 22 r (-1)) 5 r from h_r) rfl) (jB_at hX hRf hW hS) hl.1 (Nat.le_of_ble_eq_true rfl) ⟨Nat.le_of_ble_eq_true rfl, Nat.le_of_ble_eq_true rfl⟩ ⟨Nat.le_refl _, Nat.le_refl _⟩ rfl dX5_leaveLine_28) hS (fun H locs hW hS => ?_)
    subst hQ
    rw [show (bcM (mset M 22 r (-1)) r 4) = lvM M r from (if_neg c_1t).symm] at hW
    exact rt_qv () hx hb hr hlk hS (trivial) (fun t ht _ => by show WJ G d0 Rf ja _ _ t.heap; rw [ht]; exact hW) (by show 0 ≤ 0; omega) (by show 0 ≤ 0; omega) dX5_leaveLine_31
  · refine lv_aload_n hx hb dX5_leaveLine_13 rfl (lv_at hl 0 rfl) ?_
    refine lv_null hx hb dX5_leaveLine_14 ?_
    refine jp_r21n hC hK hW hS (show r < nR (mset M 22 r (-1)) from h_r) fl_X5_15 dX5_leaveLine_15 (fun H locs hW hS => ?_)
    refine lv_aload_n hx hb dX5_leaveLine_18 rfl (lv_at hl 0 rfl) ?_
    refine lv_iconst (v := 0) hx hb dX5_leaveLine_19 (by decide) ?_
    refine jcl_v (run_V hC (cJ_X5_become l G d0 mi Rf ja (mset (mset M 22 r (-1)) 21 r (-1)) E r 0 (show r < nR (mset (mset M 22 r (-1)) 21 r (-1)) from h_r)) (As := [.int 0]) (rest := []) rfl rfl ml_X5_62 im_X5_become se_X5_become ini_X5 cd_X5_become ⟨rfl, na_X5_become⟩ jB_blind (hW.recv hK (show jV (mset (mset M 22 r (-1)) 21 r (-1)) 5 r from h_r) rfl) (jB_at hX hRf hW hS) hl.1 (Nat.le_of_ble_eq_true rfl) ⟨Nat.le_of_ble_eq_true rfl, Nat.le_of_ble_eq_true rfl⟩ ⟨Nat.le_refl _, Nat.le_refl _⟩ rfl dX5_leaveLine_20) hS (fun H locs hW hS => ?_)
    refine lv_goto (tgt := 31) hx hb dX5_leaveLine_23 (by decide) ?_
    subst hQ
    rw [show (bcM (mset (mset M 22 r (-1)) 21 r (-1)) r 0) = lvM M r from (if_pos c_1f).symm] at hW
    exact rt_qv () hx hb hr hlk hS (trivial) (fun t ht _ => by show WJ G d0 Rf ja _ _ t.heap; rw [ht]; exact hW) (by show 0 ≤ 0; omega) (by show 0 ≤ 0; omega) dX5_leaveLine_31
set_option maxHeartbeats 4000000 in
set_option maxRecDepth 100000 in
theorem cJ_X5_breakDown (l : Launch) (G : gG) (d0 mi : Nat) (Rf : Nat → Prop) (ja : Nat → Nat → Nat) (M : MS) (E : ES) (r : Nat) (h_r : r < nR M) : Met l yX5_breakDown (wB yX5_breakDown cX5_breakDown 1 none) (rmL 2 0 0) (va_Pc [.ref (ja 5 r)] (jB G d0 mi Rf ja M E)) (va_Qv (S := Unit) (fun _ => True) (fun _ z9 => WJ G d0 Rf ja (dwM M r) (E) z9.heap) (jA Rf)) 0 0 (jA Rf) := by
  refine st_N (own := RX5) (by decide +kernel) rfl (Nat.le_of_ble_eq_true rfl) ?_
  intro p e s m below meth c ls args Q hQ hC hr hlk hnm hl hP
  obtain ⟨hW, hX, hRf⟩ := hP
  have hK := hX.1
  have hx := hC.1
  have hb := hC.2.1
  have hl : lv_has ls 1 [(0, .ref (ja 5 r))] := hl
  obtain ⟨H, locs, hHe, hLe⟩ : ∃ (H : Heap) (locs : List Loc), H = s.heap ∧ locs = [] := ⟨_, _, rfl, rfl⟩
  rw [← hHe] at hW
  have hS : va_S (jA Rf) s.heap H locs := by rw [hHe, hLe]; exact va_S.rf
  suffices hgo : W p l e (rmL 2 0 0) s m args below meth c H locs 0 0 Q (F0 m 0 ls []) by
    rw [hHe, hLe] at hgo
    exact hgo
  clear hHe hLe
  refine lv_aload_n hx hb dX5_breakDown_0 rfl (lv_at hl 0 rfl) ?_
  refine lv_null hx hb dX5_breakDown_1 ?_
  refine jp_r22n hC hK hW hS (show r < nR M from h_r) fl_X5_19 dX5_breakDown_2 (fun H locs hW hS => ?_)
  refine lv_aload_n hx hb dX5_breakDown_5 rfl (lv_at hl 0 rfl) ?_
  refine r1_get hC hK.1 (hW.ob (show jV (mset M 22 r (-1)) 5 r from h_r)) lay_X5 rfl 3 (by decide) fl_X5_9 (fun x hx => hx) (v := .int (M 20 r)) rfl dX5_breakDown_6 ?_
  refine lv_iconst (v := 1) hx hb dX5_breakDown_9 (by decide) ?_
  refine lv_icmp_ne (tgt := 18) hx hb dX5_breakDown_10 (by decide) (fun c_1t => ?_) (fun c_1f => ?_)
  · refine lv_aload_n hx hb dX5_breakDown_18 rfl (lv_at hl 0 rfl) ?_
    refine lv_iconst (v := 5) hx hb dX5_breakDown_19 (by decide) ?_
    refine jcl_v (run_V hC (cJ_X5_become l G d0 mi Rf ja (mset M 22 r (-1)) E r 5 (show r < nR (mset M 22 r (-1)) from h_r)) (As := [.int 5]) (rest := []) rfl rfl ml_X5_62 im_X5_become se_X5_become ini_X5 cd_X5_become ⟨rfl, na_X5_become⟩ jB_blind (hW.recv hK (show jV (mset M 22 r (-1)) 5 r from h_r) rfl) (jB_at hX hRf hW hS) hl.1 (Nat.le_of_ble_eq_true rfl) ⟨Nat.le_of_ble_eq_true rfl, Nat.le_of_ble_eq_true rfl⟩ ⟨Nat.le_refl _, Nat.le_refl _⟩ rfl dX5_breakDown_20) hS (fun H locs hW hS => ?_)
    subst hQ
    rw [show (bcM (mset M 22 r (-1)) r 5) = dwM M r from (if_neg c_1t).symm] at hW
    exact rt_qv () hx hb hr hlk hS (trivial) (fun t ht _ => by show WJ G d0 Rf ja _ _ t.heap; rw [ht]; exact hW) (by show 0 ≤ 0; omega) (by show 0 ≤ 0; omega) dX5_breakDown_23
  · refine lv_aload_n hx hb dX5_breakDown_13 rfl (lv_at hl 0 rfl) ?_
    refine lv_null hx hb dX5_breakDown_14 ?_
    refine jp_r21n hC hK hW hS (show r < nR (mset M 22 r (-1)) from h_r) fl_X5_15 dX5_breakDown_15 (fun H locs hW hS => ?_)
    refine lv_aload_n hx hb dX5_breakDown_18 rfl (lv_at hl 0 rfl) ?_
    refine lv_iconst (v := 5) hx hb dX5_breakDown_19 (by decide) ?_
    refine jcl_v (run_V hC (cJ_X5_become l G d0 mi Rf ja (mset (mset M 22 r (-1)) 21 r (-1)) E r 5 (show r < nR (mset (mset M 22 r (-1)) 21 r (-1)) from h_r)) (As := [.int 5]) (rest := []) rfl rfl ml_X5_62 im_X5_become se_X5_become ini_X5 cd_X5_become ⟨rfl, na_X5_become⟩ jB_blind (hW.recv hK (show jV (mset (mset M 22 r (-1)) 21 r (-1)) 5 r from h_r) rfl) (jB_at hX hRf hW hS) hl.1 (Nat.le_of_ble_eq_true rfl) ⟨Nat.le_of_ble_eq_true rfl, Nat.le_of_ble_eq_true rfl⟩ ⟨Nat.le_refl _, Nat.le_refl _⟩ rfl dX5_breakDown_20) hS (fun H locs hW hS => ?_)
    subst hQ
    rw [show (bcM (mset (mset M 22 r (-1)) 21 r (-1)) r 5) = dwM M r from (if_pos c_1f).symm] at hW
    exact rt_qv () hx hb hr hlk hS (trivial) (fun t ht _ => by show WJ G d0 Rf ja _ _ t.heap; rw [ht]; exact hW) (by show 0 ≤ 0; omega) (by show 0 ≤ 0; omega) dX5_breakDown_23
set_option maxHeartbeats 4000000 in
set_option maxRecDepth 100000 in
theorem cJ_X5_reachGoal (l : Launch) (G : gG) (d0 mi : Nat) (Rf : Nat → Prop) (ja : Nat → Nat → Nat) (M : MS) (E : ES) (r : Nat) (h_r : r < nR M) : Met l yX5_reachGoal (wB yX5_reachGoal cX5_reachGoal 1 none) (rmL 2 0 0) (va_Pc [.ref (ja 5 r)] (jB G d0 mi Rf ja M E)) (va_Qv (S := Unit) (fun _ => True) (fun _ z9 => WJ G d0 Rf ja (rgM_ M r) (E) z9.heap) (jA Rf)) 0 0 (jA Rf) := by
  refine st_N (own := RX5) (by decide +kernel) rfl (Nat.le_of_ble_eq_true rfl) ?_
  intro p e s m below meth c ls args Q hQ hC hr hlk hnm hl hP
  obtain ⟨hW, hX, hRf⟩ := hP
  have hK := hX.1
  have hx := hC.1
  have hb := hC.2.1
  have hl : lv_has ls 1 [(0, .ref (ja 5 r))] := hl
  obtain ⟨H, locs, hHe, hLe⟩ : ∃ (H : Heap) (locs : List Loc), H = s.heap ∧ locs = [] := ⟨_, _, rfl, rfl⟩
  rw [← hHe] at hW
  have hS : va_S (jA Rf) s.heap H locs := by rw [hHe, hLe]; exact va_S.rf
  suffices hgo : W p l e (rmL 2 0 0) s m args below meth c H locs 0 0 Q (F0 m 0 ls []) by
    rw [hHe, hLe] at hgo
    exact hgo
  clear hHe hLe
  refine lv_aload_n hx hb dX5_reachGoal_0 rfl (lv_at hl 0 rfl) ?_
  refine r1_get hC hK.1 (hW.ob (show jV M 5 r from h_r)) lay_X5 rfl 3 (by decide) fl_X5_9 (fun x hx => hx) (v := .int (M 20 r)) rfl dX5_reachGoal_1 ?_
  refine lv_iconst (v := 1) hx hb dX5_reachGoal_4 (by decide) ?_
  refine lv_icmp_ne (tgt := 16) hx hb dX5_reachGoal_5 (by decide) (fun c_1t => ?_) (fun c_1f => ?_)
  · refine lv_aload_n hx hb dX5_reachGoal_16 rfl (lv_at hl 0 rfl) ?_
    refine r1_get hC hK.1 (hW.ob (show jV M 5 r from h_r)) lay_X5 rfl 3 (by decide) fl_X5_9 (fun x hx => hx) (v := .int (M 20 r)) rfl dX5_reachGoal_17 ?_
    refine lv_iconst (v := 2) hx hb dX5_reachGoal_20 (by decide) ?_
    refine lv_icmp_ne (tgt := 32) hx hb dX5_reachGoal_21 (by decide) (fun c_2t => ?_) (fun c_2f => ?_)
    · refine lv_aload_n hx hb dX5_reachGoal_32 rfl (lv_at hl 0 rfl) ?_
      refine r1_get hC hK.1 (hW.ob (show jV M 5 r from h_r)) lay_X5 rfl 3 (by decide) fl_X5_9 (fun x hx => hx) (v := .int (M 20 r)) rfl dX5_reachGoal_33 ?_
      refine lv_iconst (v := 4) hx hb dX5_reachGoal_36 (by decide) ?_
      refine lv_icmp_ne (tgt := 50) hx hb dX5_reachGoal_37 (by decide) (fun c_3t => ?_) (fun c_3f => ?_)
      · subst hQ
        rw [show M = rgM_ M r from (by unfold rgM_; rw [if_neg c_1t, if_neg c_2t, if_neg c_3t])] at hW
        exact rt_qv () hx hb hr hlk hS (trivial) (fun t ht _ => by show WJ G d0 Rf ja _ _ t.heap; rw [ht]; exact hW) (by show 0 ≤ 0; omega) (by show 0 ≤ 0; omega) dX5_reachGoal_50
      · refine lv_aload_n hx hb dX5_reachGoal_40 rfl (lv_at hl 0 rfl) ?_
        refine lv_null hx hb dX5_reachGoal_41 ?_
        refine jp_r21n hC hK hW hS (show r < nR M from h_r) fl_X5_15 dX5_reachGoal_42 (fun H locs hW hS => ?_)
        refine lv_aload_n hx hb dX5_reachGoal_45 rfl (lv_at hl 0 rfl) ?_
        refine lv_iconst (v := 0) hx hb dX5_reachGoal_46 (by decide) ?_
        refine jcl_v (run_V hC (cJ_X5_become l G d0 mi Rf ja (mset M 21 r (-1)) E r 0 (show r < nR (mset M 21 r (-1)) from h_r)) (As := [.int 0]) (rest := []) rfl rfl ml_X5_62 im_X5_become se_X5_become ini_X5 cd_X5_become ⟨rfl, na_X5_become⟩ jB_blind (hW.recv hK (show jV (mset M 21 r (-1)) 5 r from h_r) rfl) (jB_at hX hRf hW hS) hl.1 (Nat.le_of_ble_eq_true rfl) ⟨Nat.le_of_ble_eq_true rfl, Nat.le_of_ble_eq_true rfl⟩ ⟨Nat.le_refl _, Nat.le_refl _⟩ rfl dX5_reachGoal_47) hS (fun H locs hW hS => ?_)
        subst hQ
        rw [show (bcM (mset M 21 r (-1)) r 0) = rgM_ M r from (by unfold rgM_; rw [if_neg c_1t, if_neg c_2t, if_pos c_3f])] at hW
        exact rt_qv () hx hb hr hlk hS (trivial) (fun t ht _ => by show WJ G d0 Rf ja _ _ t.heap; rw [ht]; exact hW) (by show 0 ≤ 0; omega) (by show 0 ≤ 0; omega) dX5_reachGoal_50
    · refine lv_aload_n hx hb dX5_reachGoal_24 rfl (lv_at hl 0 rfl) ?_
      refine lv_iconst (v := 3) hx hb dX5_reachGoal_25 (by decide) ?_
      refine jcl_v (run_V hC (cJ_X5_become l G d0 mi Rf ja M E r 3 (show r < nR M from h_r)) (As := [.int 3]) (rest := []) rfl rfl ml_X5_62 im_X5_become se_X5_become ini_X5 cd_X5_become ⟨rfl, na_X5_become⟩ jB_blind (hW.recv hK (show jV M 5 r from h_r) rfl) (jB_at hX hRf hW hS) hl.1 (Nat.le_of_ble_eq_true rfl) ⟨Nat.le_of_ble_eq_true rfl, Nat.le_of_ble_eq_true rfl⟩ ⟨Nat.le_refl _, Nat.le_refl _⟩ rfl dX5_reachGoal_26) hS (fun H locs hW hS => ?_)
      refine lv_goto (tgt := 50) hx hb dX5_reachGoal_29 (by decide) ?_
      subst hQ
      rw [show (bcM M r 3) = rgM_ M r from (by unfold rgM_; rw [if_neg c_1t, if_pos c_2f])] at hW
      exact rt_qv () hx hb hr hlk hS (trivial) (fun t ht _ => by show WJ G d0 Rf ja _ _ t.heap; rw [ht]; exact hW) (by show 0 ≤ 0; omega) (by show 0 ≤ 0; omega) dX5_reachGoal_50
  · refine lv_aload_n hx hb dX5_reachGoal_8 rfl (lv_at hl 0 rfl) ?_
    refine lv_iconst (v := 2) hx hb dX5_reachGoal_9 (by decide) ?_
    refine jcl_v (run_V hC (cJ_X5_become l G d0 mi Rf ja M E r 2 (show r < nR M from h_r)) (As := [.int 2]) (rest := []) rfl rfl ml_X5_62 im_X5_become se_X5_become ini_X5 cd_X5_become ⟨rfl, na_X5_become⟩ jB_blind (hW.recv hK (show jV M 5 r from h_r) rfl) (jB_at hX hRf hW hS) hl.1 (Nat.le_of_ble_eq_true rfl) ⟨Nat.le_of_ble_eq_true rfl, Nat.le_of_ble_eq_true rfl⟩ ⟨Nat.le_refl _, Nat.le_refl _⟩ rfl dX5_reachGoal_10) hS (fun H locs hW hS => ?_)
    refine lv_goto (tgt := 50) hx hb dX5_reachGoal_13 (by decide) ?_
    subst hQ
    rw [show (bcM M r 2) = rgM_ M r from (by unfold rgM_; rw [if_pos c_1f])] at hW
    exact rt_qv () hx hb hr hlk hS (trivial) (fun t ht _ => by show WJ G d0 Rf ja _ _ t.heap; rw [ht]; exact hW) (by show 0 ≤ 0; omega) (by show 0 ≤ 0; omega) dX5_reachGoal_50
set_option maxHeartbeats 4000000 in
set_option maxRecDepth 100000 in
theorem cJ_X5_isAbove (l : Launch) (G : gG) (d0 mi : Nat) (Rf : Nat → Prop) (ja : Nat → Nat → Nat) (M : MS) (E : ES) (r : Nat) (o : Nat) (h_r : r < nR M) (h_o : o < nR M) (h6_ : nR M ≤ 6) : Met l yX5_isAbove (wB yX5_isAbove cX5_isAbove 2 (some .boolean)) (rmL 0 0 0) (va_Pc [.ref (ja 5 r), .ref (ja 5 o)] (jB G d0 mi Rf ja M E)) (k2_QcV (.int (bI (abvB M r o)))) 0 0 fN := by
  refine st_N (own := RX5) (by decide +kernel) rfl (Nat.le_of_ble_eq_true rfl) ?_
  intro p e s m below meth c ls args Q hQ hC hr hlk hnm hl hP
  obtain ⟨hW, hX, hRf⟩ := hP
  have hK := hX.1
  have hx := hC.1
  have hb := hC.2.1
  have hl : lv_has ls 2 [(0, .ref (ja 5 r)), (1, .ref (ja 5 o))] := hl
  have hS : va_S (jA Rf) s.heap s.heap [] := va_S.rf
  refine lv_aload_n hx hb dX5_isAbove_0 rfl (lv_at hl 0 rfl) ?_
  refine r1_get hC hK.1 (hW.ob (show jV M 5 r from h_r)) lay_X5 rfl 1 (by decide) fl_X5_38 (fun x hx => hx) (v := .int (M 19 r)) rfl dX5_isAbove_1 ?_
  refine lv_aload_n hx hb dX5_isAbove_4 rfl (lv_at hl 1 rfl) ?_
  refine r1_get hC hK.1 (hW.ob (show jV M 5 o from h_o)) lay_X5 rfl 1 (by decide) fl_X5_38 (fun x hx => hx) (v := .int (M 19 o)) rfl dX5_isAbove_5 ?_
  refine lv_icmp_gt (tgt := 33) hx hb dX5_isAbove_8 (by decide) (fun c_1t => ?_) (fun c_1f => ?_)
  · refine lv_iconst (v := 1) hx hb dX5_isAbove_33 (by decide) ?_
    refine lv_goto (tgt := 38) hx hb dX5_isAbove_34 (by decide) ?_
    subst hQ
    exact rt_z hx hb hr hlk (by simp [abvB, bI, c_1t] <;> omega) dX5_isAbove_38
  · refine lv_aload_n hx hb dX5_isAbove_11 rfl (lv_at hl 0 rfl) ?_
    refine r1_get hC hK.1 (hW.ob (show jV M 5 r from h_r)) lay_X5 rfl 1 (by decide) fl_X5_38 (fun x hx => hx) (v := .int (M 19 r)) rfl dX5_isAbove_12 ?_
    refine lv_aload_n hx hb dX5_isAbove_15 rfl (lv_at hl 1 rfl) ?_
    refine r1_get hC hK.1 (hW.ob (show jV M 5 o from h_o)) lay_X5 rfl 1 (by decide) fl_X5_38 (fun x hx => hx) (v := .int (M 19 o)) rfl dX5_isAbove_16 ?_
    refine lv_icmp_ne (tgt := 37) hx hb dX5_isAbove_19 (by decide) (fun c_2t => ?_) (fun c_2f => ?_)
    · refine lv_iconst (v := 0) hx hb dX5_isAbove_37 (by decide) ?_
      subst hQ
      exact rt_z hx hb hr hlk (by simp [abvB, bI, c_1f, c_2t] <;> omega) dX5_isAbove_38
    · refine lv_aload_n hx hb dX5_isAbove_22 rfl (lv_at hl 0 rfl) ?_
      refine r1_get hC hK.1 (hW.ob (show jV M 5 r from h_r)) lay_X5 rfl 0 (by decide) fl_X5_32 (fun x hx => hx) (v := .int (nI r)) rfl dX5_isAbove_23 ?_
      refine lv_aload_n hx hb dX5_isAbove_26 rfl (lv_at hl 1 rfl) ?_
      refine r1_get hC hK.1 (hW.ob (show jV M 5 o from h_o)) lay_X5 rfl 0 (by decide) fl_X5_32 (fun x hx => hx) (v := .int (nI o)) rfl dX5_isAbove_27 ?_
      refine ln_ge (tgt := 37) (a := r) (b := o) hx hb dX5_isAbove_30 (by decide) rfl rfl (by omega) (by omega) (fun c_3t => ?_) (fun c_3f => ?_)
      · refine lv_iconst (v := 0) hx hb dX5_isAbove_37 (by decide) ?_
        subst hQ
        exact rt_z hx hb hr hlk (by simp [abvB, bI, c_1f, c_2f, c_3t] <;> omega) dX5_isAbove_38
      · refine lv_iconst (v := 1) hx hb dX5_isAbove_33 (by decide) ?_
        refine lv_goto (tgt := 38) hx hb dX5_isAbove_34 (by decide) ?_
        subst hQ
        exact rt_z hx hb hr hlk (by simp [abvB, bI, c_1f, c_2f, c_3f] <;> omega) dX5_isAbove_38
set_option maxHeartbeats 4000000 in
set_option maxRecDepth 100000 in
theorem cJ_X5_goesBefore (l : Launch) (G : gG) (d0 mi : Nat) (Rf : Nat → Prop) (ja : Nat → Nat → Nat) (M : MS) (E : ES) (r : Nat) (o : Nat) (h_r : r < nR M) (h_o : o < nR M) (h6_ : nR M ≤ 6) : Met l yX5_goesBefore (wB yX5_goesBefore cX5_goesBefore 2 (some .boolean)) (rmL 1 0 0) (va_Pc [.ref (ja 5 r), .ref (ja 5 o)] (jB G d0 mi Rf ja M E)) (k2_QcV (.int (bI (gbB M E r o)))) 0 0 fN := by
  refine st_N (own := RX5) (by decide +kernel) rfl (Nat.le_of_ble_eq_true rfl) ?_
  intro p e s m below meth c ls args Q hQ hC hr hlk hnm hl hP
  obtain ⟨hW, hX, hRf⟩ := hP
  have hK := hX.1
  have hx := hC.1
  have hb := hC.2.1
  have hl : lv_has ls 2 [(0, .ref (ja 5 r)), (1, .ref (ja 5 o))] := hl
  have hS : va_S (jA Rf) s.heap s.heap [] := va_S.rf
  refine lv_aload_n hx hb dX5_goesBefore_0 rfl (lv_at hl 0 rfl) ?_
  refine r1_get hC hK.1 (hW.ob (show jV M 5 r from h_r)) lay_X5 rfl 7 (by decide) fl_X5_26 (fun x hx => hx) (v := .int (eS E r)) rfl dX5_goesBefore_1 ?_
  refine lv_aload_n hx hb dX5_goesBefore_4 rfl (lv_at hl 1 rfl) ?_
  refine r1_get hC hK.1 (hW.ob (show jV M 5 o from h_o)) lay_X5 rfl 7 (by decide) fl_X5_26 (fun x hx => hx) (v := .int (eS E o)) rfl dX5_goesBefore_5 ?_
  refine lv_icmp_lt (tgt := 30) hx hb dX5_goesBefore_8 (by decide) (fun c_1t => ?_) (fun c_1f => ?_)
  · refine lv_iconst (v := 1) hx hb dX5_goesBefore_30 (by decide) ?_
    refine lv_goto (tgt := 35) hx hb dX5_goesBefore_31 (by decide) ?_
    subst hQ
    exact rt_z hx hb hr hlk (by simp [gbB, bI, c_1t]) dX5_goesBefore_35
  · refine lv_aload_n hx hb dX5_goesBefore_11 rfl (lv_at hl 0 rfl) ?_
    refine r1_get hC hK.1 (hW.ob (show jV M 5 r from h_r)) lay_X5 rfl 7 (by decide) fl_X5_26 (fun x hx => hx) (v := .int (eS E r)) rfl dX5_goesBefore_12 ?_
    refine lv_aload_n hx hb dX5_goesBefore_15 rfl (lv_at hl 1 rfl) ?_
    refine r1_get hC hK.1 (hW.ob (show jV M 5 o from h_o)) lay_X5 rfl 7 (by decide) fl_X5_26 (fun x hx => hx) (v := .int (eS E o)) rfl dX5_goesBefore_16 ?_
    refine lv_icmp_ne (tgt := 34) hx hb dX5_goesBefore_19 (by decide) (fun c_2t => ?_) (fun c_2f => ?_)
    · refine lv_iconst (v := 0) hx hb dX5_goesBefore_34 (by decide) ?_
      subst hQ
      exact rt_z hx hb hr hlk (by simp [gbB, bI, c_1f, c_2t]) dX5_goesBefore_35
    · refine lv_aload_n hx hb dX5_goesBefore_22 rfl (lv_at hl 0 rfl) ?_
      refine lv_aload_n hx hb dX5_goesBefore_23 rfl (lv_at hl 1 rfl) ?_
      refine cl_p (run_V hC (cJ_X5_isAbove l G d0 mi Rf ja M E r o (show r < nR M from h_r) (show o < nR M from h_o) (by have := hW.cnt.R6; omega)) (As := [.ref (ja 5 o)]) (rest := []) rfl rfl ml_X5_41 im_X5_isAbove se_X5_isAbove ini_X5 cd_X5_isAbove ⟨rfl, na_X5_isAbove⟩ jB_blind (hW.recv hK (show jV M 5 r from h_r) rfl) (jB_at hX hRf hW hS) hl.1 (Nat.le_of_ble_eq_true rfl) ⟨Nat.le_of_ble_eq_true rfl, Nat.le_of_ble_eq_true rfl⟩ ⟨Nat.le_refl _, Nat.le_refl _⟩ rfl dX5_goesBefore_24) ?_
      refine lb_eq (tgt := 34) (b := (abvB M r o)) hx hb dX5_goesBefore_27 (by decide) (fun c_3t => ?_) (fun c_3f => ?_)
      · refine lv_iconst (v := 0) hx hb dX5_goesBefore_34 (by decide) ?_
        subst hQ
        exact rt_z hx hb hr hlk (by simp [gbB, bI, c_1f, c_2f, c_3t]) dX5_goesBefore_35
      · refine lv_iconst (v := 1) hx hb dX5_goesBefore_30 (by decide) ?_
        refine lv_goto (tgt := 35) hx hb dX5_goesBefore_31 (by decide) ?_
        subst hQ
        exact rt_z hx hb hr hlk (by simp [gbB, bI, c_1f, c_2f, c_3f]) dX5_goesBefore_35
set_option maxHeartbeats 4000000 in
set_option maxRecDepth 100000 in
theorem cJ_X5_isOnItsWay (l : Launch) (G : gG) (d0 mi : Nat) (Rf : Nat → Prop) (ja : Nat → Nat → Nat) (M : MS) (E : ES) (r : Nat) (h_r : r < nR M) : Met l yX5_isOnItsWay (wB yX5_isOnItsWay cX5_isOnItsWay 1 (some .boolean)) (rmL 0 0 0) (va_Pc [.ref (ja 5 r)] (jB G d0 mi Rf ja M E)) (k2_QcV (.int (bI (decide (M 20 r = 1 ∨ M 20 r = 2 ∨ M 20 r = 4))))) 0 0 fN := by
  refine st_N (own := RX5) (by decide +kernel) rfl (Nat.le_of_ble_eq_true rfl) ?_
  intro p e s m below meth c ls args Q hQ hC hr hlk hnm hl hP
  obtain ⟨hW, hX, hRf⟩ := hP
  have hK := hX.1
  have hx := hC.1
  have hb := hC.2.1
  have hl : lv_has ls 1 [(0, .ref (ja 5 r))] := hl
  have hS : va_S (jA Rf) s.heap s.heap [] := va_S.rf
  refine lv_aload_n hx hb dX5_isOnItsWay_0 rfl (lv_at hl 0 rfl) ?_
  refine r1_get hC hK.1 (hW.ob (show jV M 5 r from h_r)) lay_X5 rfl 3 (by decide) fl_X5_9 (fun x hx => hx) (v := .int (M 20 r)) rfl dX5_isOnItsWay_1 ?_
  refine lv_iconst (v := 1) hx hb dX5_isOnItsWay_4 (by decide) ?_
  refine lv_icmp_eq (tgt := 24) hx hb dX5_isOnItsWay_5 (by decide) (fun c_1t => ?_) (fun c_1f => ?_)
  · refine lv_iconst (v := 1) hx hb dX5_isOnItsWay_24 (by decide) ?_
    refine lv_goto (tgt := 29) hx hb dX5_isOnItsWay_25 (by decide) ?_
    subst hQ
    exact rt_z hx hb hr hlk (bI_1 (decide_eq_true (Or.inl c_1t))) dX5_isOnItsWay_29
  · refine lv_aload_n hx hb dX5_isOnItsWay_8 rfl (lv_at hl 0 rfl) ?_
    refine r1_get hC hK.1 (hW.ob (show jV M 5 r from h_r)) lay_X5 rfl 3 (by decide) fl_X5_9 (fun x hx => hx) (v := .int (M 20 r)) rfl dX5_isOnItsWay_9 ?_
    refine lv_iconst (v := 2) hx hb dX5_isOnItsWay_12 (by decide) ?_
    refine lv_icmp_eq (tgt := 24) hx hb dX5_isOnItsWay_13 (by decide) (fun c_2t => ?_) (fun c_2f => ?_)
    · refine lv_iconst (v := 1) hx hb dX5_isOnItsWay_24 (by decide) ?_
      refine lv_goto (tgt := 29) hx hb dX5_isOnItsWay_25 (by decide) ?_
      subst hQ
      exact rt_z hx hb hr hlk (bI_1 (decide_eq_true (Or.inr (Or.inl c_2t)))) dX5_isOnItsWay_29
    · refine lv_aload_n hx hb dX5_isOnItsWay_16 rfl (lv_at hl 0 rfl) ?_
      refine r1_get hC hK.1 (hW.ob (show jV M 5 r from h_r)) lay_X5 rfl 3 (by decide) fl_X5_9 (fun x hx => hx) (v := .int (M 20 r)) rfl dX5_isOnItsWay_17 ?_
      refine lv_iconst (v := 4) hx hb dX5_isOnItsWay_20 (by decide) ?_
      refine lv_icmp_ne (tgt := 28) hx hb dX5_isOnItsWay_21 (by decide) (fun c_3t => ?_) (fun c_3f => ?_)
      · refine lv_iconst (v := 0) hx hb dX5_isOnItsWay_28 (by decide) ?_
        subst hQ
        exact rt_z hx hb hr hlk (bI_0 (decide_eq_false (fun q => q.elim c_1f (fun q => q.elim c_2f c_3t)))) dX5_isOnItsWay_29
      · refine lv_iconst (v := 1) hx hb dX5_isOnItsWay_24 (by decide) ?_
        refine lv_goto (tgt := 29) hx hb dX5_isOnItsWay_25 (by decide) ?_
        subst hQ
        exact rt_z hx hb hr hlk (bI_1 (decide_eq_true (Or.inr (Or.inr c_3f)))) dX5_isOnItsWay_29
set_option maxHeartbeats 4000000 in
set_option maxRecDepth 100000 in
theorem cJ_X5_goal (l : Launch) (G : gG) (d0 mi : Nat) (Rf : Nat → Prop) (ja : Nat → Nat → Nat) (M : MS) (E : ES) (r : Nat) (h_r : r < nR M) : Met l yX5_goal (wB yX5_goal cX5_goal 1 (some .int)) (rmL 0 0 0) (va_Pc [.ref (ja 5 r)] (jB G d0 mi Rf ja M E)) (k2_QcV (.int (gol M r))) 0 0 fN := by
  refine st_N (own := RX5) (by decide +kernel) rfl (Nat.le_of_ble_eq_true rfl) ?_
  intro p e s m below meth c ls args Q hQ hC hr hlk hnm hl hP
  obtain ⟨hW, hX, hRf⟩ := hP
  have hK := hX.1
  have hx := hC.1
  have hb := hC.2.1
  have hl : lv_has ls 1 [(0, .ref (ja 5 r))] := hl
  have hS : va_S (jA Rf) s.heap s.heap [] := va_S.rf
  refine lv_aload_n hx hb dX5_goal_0 rfl (lv_at hl 0 rfl) ?_
  refine r1_get hC hK.1 (hW.ob (show jV M 5 r from h_r)) lay_X5 rfl 3 (by decide) fl_X5_9 (fun x hx => hx) (v := .int (M 20 r)) rfl dX5_goal_1 ?_
  refine lv_iconst (v := 1) hx hb dX5_goal_4 (by decide) ?_
  refine lv_icmp_eq (tgt := 16) hx hb dX5_goal_5 (by decide) (fun c_1t => ?_) (fun c_1f => ?_)
  · refine lv_aload_n hx hb dX5_goal_16 rfl (lv_at hl 0 rfl) ?_
    rcases (hW.pt.1 _ (show r < nR M from h_r)).1 with hq2 | ⟨t2, ht2, hq2⟩
    · refine r1_get hC hK.1 (hW.ob (show jV M 5 r from h_r)) lay_X5 rfl 4 (by decide) fl_X5_15 (fun x hx => hx) (v := .null) (show some (va_rf (jp ja 7 (M 21 r))) = _ by rw [show M 21 r = -1 from hq2, jp_n]; rfl) dX5_goal_17 ?_
      refine lv_ifnonnullN hx hb dX5_goal_20 ?_
      refine lv_iconst (v := (-1)) hx hb dX5_goal_23 (by decide) ?_
      refine lv_goto (tgt := 34) hx hb dX5_goal_24 (by decide) ?_
      subst hQ
      exact rt_i hx hb hr hlk (by unfold gol; rw [if_pos (Or.inl c_1t), hq2, if_pos rfl]) dX5_goal_34
    · have hb2_ := hW.cnt.T16
      refine r1_get hC hK.1 (hW.ob (show jV M 5 r from h_r)) lay_X5 rfl 4 (by decide) fl_X5_15 (fun x hx => hx) (v := .ref (ja 7 t2)) (show some (va_rf (jp ja 7 (M 21 r))) = _ by rw [show M 21 r = nI t2 from hq2, jp_s _ (by omega)]; rfl) dX5_goal_17 ?_
      refine lv_ifnonnull (tgt := 27) hx hb dX5_goal_20 (by decide) ?_
      refine lv_aload_n hx hb dX5_goal_27 rfl (lv_at hl 0 rfl) ?_
      refine r1_get hC hK.1 (hW.ob (show jV M 5 r from h_r)) lay_X5 rfl 4 (by decide) fl_X5_15 (fun x hx => hx) (v := .ref (ja 7 t2)) (show some (va_rf (jp ja 7 (M 21 r))) = _ by rw [show M 21 r = nI t2 from hq2, jp_s _ (by omega)]; rfl) dX5_goal_28 ?_
      refine r1_get hC hK.1 (hW.ob (show jV M 7 t2 from ht2)) lay_X7 rfl 1 (by decide) fl_X5_45 (fun x hx => hx) (v := .int (M 7 t2)) rfl dX5_goal_31 ?_
      subst hQ
      exact rt_i hx hb hr hlk (by unfold gol; rw [if_pos (Or.inl c_1t), hq2, if_neg (nI_m1 (by omega)), ix_nI (by omega)]) dX5_goal_34
  · refine lv_aload_n hx hb dX5_goal_8 rfl (lv_at hl 0 rfl) ?_
    refine r1_get hC hK.1 (hW.ob (show jV M 5 r from h_r)) lay_X5 rfl 3 (by decide) fl_X5_9 (fun x hx => hx) (v := .int (M 20 r)) rfl dX5_goal_9 ?_
    refine lv_iconst (v := 4) hx hb dX5_goal_12 (by decide) ?_
    refine lv_icmp_ne (tgt := 35) hx hb dX5_goal_13 (by decide) (fun c_3t => ?_) (fun c_3f => ?_)
    · refine lv_aload_n hx hb dX5_goal_35 rfl (lv_at hl 0 rfl) ?_
      rcases (hW.pt.1 _ (show r < nR M from h_r)).2 with hq4 | ⟨t4, ht4, hq4⟩
      · refine r1_get hC hK.1 (hW.ob (show jV M 5 r from h_r)) lay_X5 rfl 5 (by decide) fl_X5_19 (fun x hx => hx) (v := .null) (show some (va_rf (jp ja 2 (M 22 r))) = _ by rw [show M 22 r = -1 from hq4, jp_n]; rfl) dX5_goal_36 ?_
        refine lv_ifnullN (tgt := 52) hx hb dX5_goal_39 (by decide) ?_
        refine lv_iconst (v := (-1)) hx hb dX5_goal_52 (by decide) ?_
        refine lv_goto (tgt := 66) hx hb dX5_goal_53 (by decide) ?_
        subst hQ
        exact rt_i hx hb hr hlk (by unfold gol; rw [if_neg (fun q => q.elim c_1f c_3t), hq4, if_pos rfl]) dX5_goal_66
      · have hb4_ := VL_lt hW.cnt ht4
        refine r1_get hC hK.1 (hW.ob (show jV M 5 r from h_r)) lay_X5 rfl 5 (by decide) fl_X5_19 (fun x hx => hx) (v := .ref (ja 2 t4)) (show some (va_rf (jp ja 2 (M 22 r))) = _ by rw [show M 22 r = nI t4 from hq4, jp_s _ (by omega)]; rfl) dX5_goal_36 ?_
        refine lv_ifnull hx hb dX5_goal_39 ?_
        refine lv_aload_n hx hb dX5_goal_42 rfl (lv_at hl 0 rfl) ?_
        refine r1_get hC hK.1 (hW.ob (show jV M 5 r from h_r)) lay_X5 rfl 5 (by decide) fl_X5_19 (fun x hx => hx) (v := .ref (ja 2 t4)) (show some (va_rf (jp ja 2 (M 22 r))) = _ by rw [show M 22 r = nI t4 from hq4, jp_s _ (by omega)]; rfl) dX5_goal_43 ?_
        rcases hW.pt.2.1 _ (show VL M t4 = true from ht4) with hq5 | ⟨t5, ht5, hq5⟩
        · refine r1_get hC hK.1 (hW.ob (show jV M 2 t4 from ht4)) lay_X2 rfl 3 (by decide) fl_X5_50 (fun x hx => hx) (v := .null) (show some (va_rf (jp ja 6 (M 14 t4))) = _ by rw [show M 14 t4 = -1 from hq5, jp_n]; rfl) dX5_goal_46 ?_
          refine lv_ifnonnullN hx hb dX5_goal_49 ?_
          refine lv_iconst (v := (-1)) hx hb dX5_goal_52 (by decide) ?_
          refine lv_goto (tgt := 66) hx hb dX5_goal_53 (by decide) ?_
          subst hQ
          exact rt_i hx hb hr hlk (by unfold gol; rw [if_neg (fun q => q.elim c_1f c_3t), hq4, if_neg (nI_m1 (by omega)), ix_nI (by omega), hq5, if_pos rfl]) dX5_goal_66
        · have hb5_ := hW.cnt.S3
          refine r1_get hC hK.1 (hW.ob (show jV M 2 t4 from ht4)) lay_X2 rfl 3 (by decide) fl_X5_50 (fun x hx => hx) (v := .ref (ja 6 t5)) (show some (va_rf (jp ja 6 (M 14 t4))) = _ by rw [show M 14 t4 = nI t5 from hq5, jp_s _ (by omega)]; rfl) dX5_goal_46 ?_
          refine lv_ifnonnull (tgt := 56) hx hb dX5_goal_49 (by decide) ?_
          refine lv_aload_n hx hb dX5_goal_56 rfl (lv_at hl 0 rfl) ?_
          refine r1_get hC hK.1 (hW.ob (show jV M 5 r from h_r)) lay_X5 rfl 5 (by decide) fl_X5_19 (fun x hx => hx) (v := .ref (ja 2 t4)) (show some (va_rf (jp ja 2 (M 22 r))) = _ by rw [show M 22 r = nI t4 from hq4, jp_s _ (by omega)]; rfl) dX5_goal_57 ?_
          refine r1_get hC hK.1 (hW.ob (show jV M 2 t4 from ht4)) lay_X2 rfl 3 (by decide) fl_X5_50 (fun x hx => hx) (v := .ref (ja 6 t5)) (show some (va_rf (jp ja 6 (M 14 t4))) = _ by rw [show M 14 t4 = nI t5 from hq5, jp_s _ (by omega)]; rfl) dX5_goal_60 ?_
          refine r1_get hC hK.1 (hW.ob (show jV M 6 t5 from ht5)) lay_X6 rfl 1 (by decide) fl_X5_56 (fun x hx => hx) (v := .int (M 5 t5)) rfl dX5_goal_63 ?_
          subst hQ
          exact rt_i hx hb hr hlk (by unfold gol; rw [if_neg (fun q => q.elim c_1f c_3t), hq4, if_neg (nI_m1 (by omega)), ix_nI (by omega), hq5, if_neg (nI_m1 (by omega)), ix_nI (by omega)]) dX5_goal_66
    · refine lv_aload_n hx hb dX5_goal_16 rfl (lv_at hl 0 rfl) ?_
      rcases (hW.pt.1 _ (show r < nR M from h_r)).1 with hq6 | ⟨t6, ht6, hq6⟩
      · refine r1_get hC hK.1 (hW.ob (show jV M 5 r from h_r)) lay_X5 rfl 4 (by decide) fl_X5_15 (fun x hx => hx) (v := .null) (show some (va_rf (jp ja 7 (M 21 r))) = _ by rw [show M 21 r = -1 from hq6, jp_n]; rfl) dX5_goal_17 ?_
        refine lv_ifnonnullN hx hb dX5_goal_20 ?_
        refine lv_iconst (v := (-1)) hx hb dX5_goal_23 (by decide) ?_
        refine lv_goto (tgt := 34) hx hb dX5_goal_24 (by decide) ?_
        subst hQ
        exact rt_i hx hb hr hlk (by unfold gol; rw [if_pos (Or.inr c_3f), hq6, if_pos rfl]) dX5_goal_34
      · have hb6_ := hW.cnt.T16
        refine r1_get hC hK.1 (hW.ob (show jV M 5 r from h_r)) lay_X5 rfl 4 (by decide) fl_X5_15 (fun x hx => hx) (v := .ref (ja 7 t6)) (show some (va_rf (jp ja 7 (M 21 r))) = _ by rw [show M 21 r = nI t6 from hq6, jp_s _ (by omega)]; rfl) dX5_goal_17 ?_
        refine lv_ifnonnull (tgt := 27) hx hb dX5_goal_20 (by decide) ?_
        refine lv_aload_n hx hb dX5_goal_27 rfl (lv_at hl 0 rfl) ?_
        refine r1_get hC hK.1 (hW.ob (show jV M 5 r from h_r)) lay_X5 rfl 4 (by decide) fl_X5_15 (fun x hx => hx) (v := .ref (ja 7 t6)) (show some (va_rf (jp ja 7 (M 21 r))) = _ by rw [show M 21 r = nI t6 from hq6, jp_s _ (by omega)]; rfl) dX5_goal_28 ?_
        refine r1_get hC hK.1 (hW.ob (show jV M 7 t6 from ht6)) lay_X7 rfl 1 (by decide) fl_X5_45 (fun x hx => hx) (v := .int (M 7 t6)) rfl dX5_goal_31 ?_
        subst hQ
        exact rt_i hx hb hr hlk (by unfold gol; rw [if_pos (Or.inr c_3f), hq6, if_neg (nI_m1 (by omega)), ix_nI (by omega)]) dX5_goal_34
/-! THE FLEET LOOKS FOR ROBOTS -/
set_option maxHeartbeats 4000000 in
set_option maxRecDepth 100000 in
theorem cJ_X0_robotAt (l : Launch) (G : gG) (d0 mi : Nat) (Rf : Nat → Prop) (ja : Nat → Nat → Nat) (M : MS) (E : ES) (x : Int32) (huq : uq18 M) : Met l yX0_robotAt (wB yX0_robotAt cX0_robotAt 4 (some (.object "ShelfSwarm$Robot"))) (rmL 3 0 0) (va_Pc [.ref (ja 0 0), .int x] (jB G d0 mi Rf ja M E)) (k2_QcV (va_rf (Option.map (ja 5) (rbA M x)))) 0 0 fN := by
  refine st_N (own := RX0) (by decide +kernel) rfl (Nat.le_of_ble_eq_true rfl) ?_
  intro p e s m below meth c ls args Q hQ hC hr hlk hnm hl hP
  obtain ⟨hW, hX, hRf⟩ := hP
  have hK := hX.1
  have hx := hC.1
  have hb := hC.2.1
  have hl : lv_has ls 4 [(0, .ref (ja 0 0)), (1, .int x)] := hl
  have hS : va_S (jA Rf) s.heap s.heap [] := va_S.rf
  refine lv_iconst (v := 0) hx hb dX0_robotAt_0 (by decide) ?_
  refine lv_istore_n (lv' := [(2, .int 0), (0, .ref (ja 0 0)), (1, .int x)]) hx hb dX0_robotAt_1 rfl hl (by decide) rfl (fun ls hl => ?_)
  have loop1 : ∀ (n_ : Nat) (i : Nat) (hi : i ≤ nR M) (hno : ∀ k, k < i → ¬ M 18 k = x) (ls : Array Slot), nR M - i < n_ → lv_has ls 4 [(2, .int (nI i)), (0, .ref (ja 0 0)), (1, .int x)] → W p l e (rmL 3 0 0) s m args below meth c s.heap [] 0 0 Q (F0 m 2 ls []) := by
    intro n_
    induction n_ with
    | zero => intro i hi hno ls hm hl; omega
    | succ n_ ih1 =>
      intro i hi hno ls hm hl
      have h6 := hW.cnt.R6
      refine lv_iload_n hx hb dX0_robotAt_2 rfl (lv_at hl 0 rfl) ?_
      refine lv_aload_n hx hb dX0_robotAt_3 rfl (lv_at hl 1 rfl) ?_
      refine r1_get hC hK.1 (hW.ob (show jV M 0 0 from rfl)) lay_X0 rfl 1 (by decide) fl_X0_21 (fun x hx => hx) (v := .ref (ja 10 4)) rfl dX0_robotAt_4 ?_
      refine jw_size hC hK hW.1 (i := 4) (Or.inl (by decide)) ml_X0_44 hl.1 (Nat.le_of_ble_eq_true rfl) ⟨Nat.le_of_ble_eq_true rfl, Nat.le_of_ble_eq_true rfl, Nat.le_refl _, Nat.le_refl _⟩ dX0_robotAt_7 ?_
      refine top_i (y := nI (nR M)) rfl ?_
      refine ln_ge (tgt := 41) (a := i) (b := (nR M)) hx hb dX0_robotAt_10 (by decide) rfl rfl (by omega) (by omega) (fun c_2t => ?_) (fun c_2f => ?_)
      · refine lv_null hx hb dX0_robotAt_41 ?_
        subst hQ
        exact rt_a (r := none) hx hb hr (Or.inl ⟨_, rfl⟩) hlk rfl (by rw [show rbA M x = none from lastE_none.mpr (fun k hk => hno k (by omega))]; rfl) dX0_robotAt_42
      · refine lv_aload_n hx hb dX0_robotAt_13 rfl (lv_at hl 1 rfl) ?_
        refine r1_get hC hK.1 (hW.ob (show jV M 0 0 from rfl)) lay_X0 rfl 1 (by decide) fl_X0_21 (fun x hx => hx) (v := .ref (ja 10 4)) rfl dX0_robotAt_14 ?_
        refine lv_iload_n hx hb dX0_robotAt_17 rfl (lv_at hl 0 rfl) ?_
        refine jw_get hC hK hW.1 (i := 4) (j := i) (Or.inl (by decide)) (show i < jn M E 4 from (by show i < nR M; omega)) ml_X0_48 hl.1 (Nat.le_of_ble_eq_true rfl) ⟨Nat.le_of_ble_eq_true rfl, Nat.le_of_ble_eq_true rfl, Nat.le_refl _, Nat.le_refl _⟩ dX0_robotAt_18 ?_
        refine jw_cast hC hK (hW.ob (show jV M 5 i from (by show i < nR M; omega))) rfl cl_X0_52 dX0_robotAt_21 ?_
        refine lv_astore_n (lv' := [(3, .ref (ja 5 i)), (2, .int (nI i)), (0, .ref (ja 0 0)), (1, .int x)]) hx hb dX0_robotAt_24 rfl hl (by decide) rfl (fun ls hl => ?_)
        refine lv_aload_n hx hb dX0_robotAt_25 rfl (lv_at hl 0 rfl) ?_
        refine r1_get hC hK.1 (hW.ob (show jV M 5 i from (by show i < nR M; omega))) lay_X5 rfl 2 (by decide) fl_X0_54 (fun x hx => hx) (v := .int (M 18 i)) rfl dX0_robotAt_26 ?_
        refine lv_iload_n hx hb dX0_robotAt_29 rfl (lv_at hl 3 rfl) ?_
        refine lv_icmp_ne (tgt := 35) hx hb dX0_robotAt_30 (by decide) (fun c_3t => ?_) (fun c_3f => ?_)
        · refine lv_iinc (v := nI (i + 1)) (lv' := [(2, .int (nI (i + 1))), (3, .ref (ja 5 i)), (0, .ref (ja 0 0)), (1, .int x)]) hx hb dX0_robotAt_35 hl (k := 1) rfl (nI_inc _) (by decide) rfl (fun ls hl => ?_)
          refine lv_goto (tgt := 2) hx hb dX0_robotAt_38 (by decide) ?_
          exact ih1 (i + 1) (by omega) (lt_s hno c_3t) ls (by omega) (lv_sub hl [0, 2, 3] rfl)
        · refine lv_aload_n hx hb dX0_robotAt_33 rfl (lv_at hl 0 rfl) ?_
          subst hQ
          exact rt_a (r := some (ja 5 i)) hx hb hr (Or.inl ⟨_, rfl⟩) hlk rfl (by rw [show rbA M x = some i from lastE_one (by omega) c_3f (fun k hk e => huq k i hk (by omega) (e.trans c_3f.symm))]; rfl) dX0_robotAt_34
  exact loop1 ((nR M - 0) + 1) 0 (Nat.zero_le _) (fun k hk => absurd hk (Nat.not_lt_zero k)) ls (by omega) (lv_sub hl [0, 1, 2] rfl)
set_option maxHeartbeats 4000000 in
set_option maxRecDepth 100000 in
theorem cJ_X0_robotWith (l : Launch) (G : gG) (d0 mi : Nat) (Rf : Nat → Prop) (ja : Nat → Nat → Nat) (M : MS) (E : ES) (t : Nat) (h_t : t < nT M) (huq : uq21 M) (ht16 : t < 16) : Met l yX0_robotWith (wB yX0_robotWith cX0_robotWith 4 (some (.object "ShelfSwarm$Robot"))) (rmL 3 0 0) (va_Pc [.ref (ja 0 0), .ref (ja 7 t)] (jB G d0 mi Rf ja M E)) (k2_QcV (va_rf (Option.map (ja 5) (rtA M t)))) 0 0 fN := by
  refine st_N (own := RX0) (by decide +kernel) rfl (Nat.le_of_ble_eq_true rfl) ?_
  intro p e s m below meth c ls args Q hQ hC hr hlk hnm hl hP
  obtain ⟨hW, hX, hRf⟩ := hP
  have hK := hX.1
  have hx := hC.1
  have hb := hC.2.1
  have hl : lv_has ls 4 [(0, .ref (ja 0 0)), (1, .ref (ja 7 t))] := hl
  have hS : va_S (jA Rf) s.heap s.heap [] := va_S.rf
  refine lv_iconst (v := 0) hx hb dX0_robotWith_0 (by decide) ?_
  refine lv_istore_n (lv' := [(2, .int 0), (0, .ref (ja 0 0)), (1, .ref (ja 7 t))]) hx hb dX0_robotWith_1 rfl hl (by decide) rfl (fun ls hl => ?_)
  have loop1 : ∀ (n_ : Nat) (i : Nat) (hi : i ≤ nR M) (hno : ∀ k, k < i → ¬ M 21 k = nI t) (ls : Array Slot), nR M - i < n_ → lv_has ls 4 [(2, .int (nI i)), (0, .ref (ja 0 0)), (1, .ref (ja 7 t))] → W p l e (rmL 3 0 0) s m args below meth c s.heap [] 0 0 Q (F0 m 2 ls []) := by
    intro n_
    induction n_ with
    | zero => intro i hi hno ls hm hl; omega
    | succ n_ ih1 =>
      intro i hi hno ls hm hl
      have h6 := hW.cnt.R6
      refine lv_iload_n hx hb dX0_robotWith_2 rfl (lv_at hl 0 rfl) ?_
      refine lv_aload_n hx hb dX0_robotWith_3 rfl (lv_at hl 1 rfl) ?_
      refine r1_get hC hK.1 (hW.ob (show jV M 0 0 from rfl)) lay_X0 rfl 1 (by decide) fl_X0_21 (fun x hx => hx) (v := .ref (ja 10 4)) rfl dX0_robotWith_4 ?_
      refine jw_size hC hK hW.1 (i := 4) (Or.inl (by decide)) ml_X0_44 hl.1 (Nat.le_of_ble_eq_true rfl) ⟨Nat.le_of_ble_eq_true rfl, Nat.le_of_ble_eq_true rfl, Nat.le_refl _, Nat.le_refl _⟩ dX0_robotWith_7 ?_
      refine top_i (y := nI (nR M)) rfl ?_
      refine ln_ge (tgt := 41) (a := i) (b := (nR M)) hx hb dX0_robotWith_10 (by decide) rfl rfl (by omega) (by omega) (fun c_2t => ?_) (fun c_2f => ?_)
      · refine lv_null hx hb dX0_robotWith_41 ?_
        subst hQ
        exact rt_a (r := none) hx hb hr (Or.inl ⟨_, rfl⟩) hlk rfl (by rw [show rtA M t = none from lastE_none.mpr (fun k hk => hno k (by omega))]; rfl) dX0_robotWith_42
      · refine lv_aload_n hx hb dX0_robotWith_13 rfl (lv_at hl 1 rfl) ?_
        refine r1_get hC hK.1 (hW.ob (show jV M 0 0 from rfl)) lay_X0 rfl 1 (by decide) fl_X0_21 (fun x hx => hx) (v := .ref (ja 10 4)) rfl dX0_robotWith_14 ?_
        refine lv_iload_n hx hb dX0_robotWith_17 rfl (lv_at hl 0 rfl) ?_
        refine jw_get hC hK hW.1 (i := 4) (j := i) (Or.inl (by decide)) (show i < jn M E 4 from (by show i < nR M; omega)) ml_X0_48 hl.1 (Nat.le_of_ble_eq_true rfl) ⟨Nat.le_of_ble_eq_true rfl, Nat.le_of_ble_eq_true rfl, Nat.le_refl _, Nat.le_refl _⟩ dX0_robotWith_18 ?_
        refine jw_cast hC hK (hW.ob (show jV M 5 i from (by show i < nR M; omega))) rfl cl_X0_52 dX0_robotWith_21 ?_
        refine lv_astore_n (lv' := [(3, .ref (ja 5 i)), (2, .int (nI i)), (0, .ref (ja 0 0)), (1, .ref (ja 7 t))]) hx hb dX0_robotWith_24 rfl hl (by decide) rfl (fun ls hl => ?_)
        refine lv_aload_n hx hb dX0_robotWith_25 rfl (lv_at hl 0 rfl) ?_
        rcases (hW.pt.1 _ (show i < nR M from (by show i < nR M; omega))).1 with hq3 | ⟨t3, ht3, hq3⟩
        · refine r1_get hC hK.1 (hW.ob (show jV M 5 i from (by show i < nR M; omega))) lay_X5 rfl 4 (by decide) fl_X0_57 (fun x hx => hx) (v := .null) (show some (va_rf (jp ja 7 (M 21 i))) = _ by rw [show M 21 i = -1 from hq3, jp_n]; rfl) dX0_robotWith_26 ?_
          refine lv_aload_n hx hb dX0_robotWith_29 rfl (lv_at hl 3 rfl) ?_
          refine lv_acmp_ne (rx := none) (ry := some (ja 7 t)) (tgt := 35) hx hb dX0_robotWith_30 (by decide) (fun _ => ?_) (fun c => absurd c (by simp))
          refine lv_iinc (v := nI (i + 1)) (lv' := [(2, .int (nI (i + 1))), (3, .ref (ja 5 i)), (0, .ref (ja 0 0)), (1, .ref (ja 7 t))]) hx hb dX0_robotWith_35 hl (k := 1) rfl (nI_inc _) (by decide) rfl (fun ls hl => ?_)
          refine lv_goto (tgt := 2) hx hb dX0_robotWith_38 (by decide) ?_
          exact ih1 (i + 1) (by omega) (lt_s hno (by rw [hq3]; exact fun q => nI_m1 (by omega) q.symm)) ls (by omega) (lv_sub hl [0, 2, 3] rfl)
        · have hb3_ := hW.cnt.T16
          refine r1_get hC hK.1 (hW.ob (show jV M 5 i from (by show i < nR M; omega))) lay_X5 rfl 4 (by decide) fl_X0_57 (fun x hx => hx) (v := .ref (ja 7 t3)) (show some (va_rf (jp ja 7 (M 21 i))) = _ by rw [show M 21 i = nI t3 from hq3, jp_s _ (by omega)]; rfl) dX0_robotWith_26 ?_
          refine lv_aload_n hx hb dX0_robotWith_29 rfl (lv_at hl 3 rfl) ?_
          refine lv_acmp_ne (rx := some (ja 7 t3)) (ry := some (ja 7 t)) (tgt := 35) hx hb dX0_robotWith_30 (by decide) (fun c_5t => ?_) (fun c_5f => ?_)
          · have c_5t : ¬ t3 = t := fun q => c_5t (by rw [q])
            refine lv_iinc (v := nI (i + 1)) (lv' := [(2, .int (nI (i + 1))), (3, .ref (ja 5 i)), (0, .ref (ja 0 0)), (1, .ref (ja 7 t))]) hx hb dX0_robotWith_35 hl (k := 1) rfl (nI_inc _) (by decide) rfl (fun ls hl => ?_)
            refine lv_goto (tgt := 2) hx hb dX0_robotWith_38 (by decide) ?_
            exact ih1 (i + 1) (by omega) (lt_s hno (by rw [hq3]; exact fun q => c_5t ((nI_eq (by omega) (by omega)).mp q))) ls (by omega) (lv_sub hl [0, 2, 3] rfl)
          · have c_5f : t3 = t := (hW.inj (show jV M 7 t3 from ht3) (show jV M 7 t from h_t)).mp (Option.some.inj c_5f)
            refine lv_aload_n hx hb dX0_robotWith_33 rfl (lv_at hl 0 rfl) ?_
            subst hQ
            exact rt_a (r := some (ja 5 i)) hx hb hr (Or.inl ⟨_, rfl⟩) hlk rfl (by rw [show rtA M t = some i from lastE_one (by omega) (by rw [hq3, c_5f]) (fun k hk e => huq k i hk (by omega) (by rw [e, hq3, c_5f]) (by rw [e]; exact nI_m1 (by omega)))]; rfl) dX0_robotWith_34
  exact loop1 ((nR M - 0) + 1) 0 (Nat.zero_le _) (fun k hk => absurd hk (Nat.not_lt_zero k)) ls (by omega) (lv_sub hl [0, 1, 2] rfl)
set_option maxHeartbeats 4000000 in
set_option maxRecDepth 100000 in
theorem cJ_X0_workerFor (l : Launch) (G : gG) (d0 mi : Nat) (Rf : Nat → Prop) (ja : Nat → Nat → Nat) (M : MS) (E : ES) (k : Nat) (h_k : VL M k = true) (huq : uq22 M) (hk30 : k < 30) : Met l yX0_workerFor (wB yX0_workerFor cX0_workerFor 4 (some (.object "ShelfSwarm$Robot"))) (rmL 3 0 0) (va_Pc [.ref (ja 0 0), .ref (ja 2 k)] (jB G d0 mi Rf ja M E)) (k2_QcV (va_rf (Option.map (ja 5) (wlA M k)))) 0 0 fN := by
  refine st_N (own := RX0) (by decide +kernel) rfl (Nat.le_of_ble_eq_true rfl) ?_
  intro p e s m below meth c ls args Q hQ hC hr hlk hnm hl hP
  obtain ⟨hW, hX, hRf⟩ := hP
  have hK := hX.1
  have hx := hC.1
  have hb := hC.2.1
  have hl : lv_has ls 4 [(0, .ref (ja 0 0)), (1, .ref (ja 2 k))] := hl
  have hS : va_S (jA Rf) s.heap s.heap [] := va_S.rf
  refine lv_iconst (v := 0) hx hb dX0_workerFor_0 (by decide) ?_
  refine lv_istore_n (lv' := [(2, .int 0), (0, .ref (ja 0 0)), (1, .ref (ja 2 k))]) hx hb dX0_workerFor_1 rfl hl (by decide) rfl (fun ls hl => ?_)
  have loop1 : ∀ (n_ : Nat) (i : Nat) (hi : i ≤ nR M) (hno : ∀ q, q < i → ¬ M 22 q = nI k) (ls : Array Slot), nR M - i < n_ → lv_has ls 4 [(2, .int (nI i)), (0, .ref (ja 0 0)), (1, .ref (ja 2 k))] → W p l e (rmL 3 0 0) s m args below meth c s.heap [] 0 0 Q (F0 m 2 ls []) := by
    intro n_
    induction n_ with
    | zero => intro i hi hno ls hm hl; omega
    | succ n_ ih1 =>
      intro i hi hno ls hm hl
      have h6 := hW.cnt.R6
      refine lv_iload_n hx hb dX0_workerFor_2 rfl (lv_at hl 0 rfl) ?_
      refine lv_aload_n hx hb dX0_workerFor_3 rfl (lv_at hl 1 rfl) ?_
      refine r1_get hC hK.1 (hW.ob (show jV M 0 0 from rfl)) lay_X0 rfl 1 (by decide) fl_X0_21 (fun x hx => hx) (v := .ref (ja 10 4)) rfl dX0_workerFor_4 ?_
      refine jw_size hC hK hW.1 (i := 4) (Or.inl (by decide)) ml_X0_44 hl.1 (Nat.le_of_ble_eq_true rfl) ⟨Nat.le_of_ble_eq_true rfl, Nat.le_of_ble_eq_true rfl, Nat.le_refl _, Nat.le_refl _⟩ dX0_workerFor_7 ?_
      refine top_i (y := nI (nR M)) rfl ?_
      refine ln_ge (tgt := 41) (a := i) (b := (nR M)) hx hb dX0_workerFor_10 (by decide) rfl rfl (by omega) (by omega) (fun c_2t => ?_) (fun c_2f => ?_)
      · refine lv_null hx hb dX0_workerFor_41 ?_
        subst hQ
        exact rt_a (r := none) hx hb hr (Or.inl ⟨_, rfl⟩) hlk rfl (by rw [show wlA M k = none from lastE_none.mpr (fun q hk => hno q (by omega))]; rfl) dX0_workerFor_42
      · refine lv_aload_n hx hb dX0_workerFor_13 rfl (lv_at hl 1 rfl) ?_
        refine r1_get hC hK.1 (hW.ob (show jV M 0 0 from rfl)) lay_X0 rfl 1 (by decide) fl_X0_21 (fun x hx => hx) (v := .ref (ja 10 4)) rfl dX0_workerFor_14 ?_
        refine lv_iload_n hx hb dX0_workerFor_17 rfl (lv_at hl 0 rfl) ?_
        refine jw_get hC hK hW.1 (i := 4) (j := i) (Or.inl (by decide)) (show i < jn M E 4 from (by show i < nR M; omega)) ml_X0_48 hl.1 (Nat.le_of_ble_eq_true rfl) ⟨Nat.le_of_ble_eq_true rfl, Nat.le_of_ble_eq_true rfl, Nat.le_refl _, Nat.le_refl _⟩ dX0_workerFor_18 ?_
        refine jw_cast hC hK (hW.ob (show jV M 5 i from (by show i < nR M; omega))) rfl cl_X0_52 dX0_workerFor_21 ?_
        refine lv_astore_n (lv' := [(3, .ref (ja 5 i)), (2, .int (nI i)), (0, .ref (ja 0 0)), (1, .ref (ja 2 k))]) hx hb dX0_workerFor_24 rfl hl (by decide) rfl (fun ls hl => ?_)
        refine lv_aload_n hx hb dX0_workerFor_25 rfl (lv_at hl 0 rfl) ?_
        rcases (hW.pt.1 _ (show i < nR M from (by show i < nR M; omega))).2 with hq3 | ⟨t3, ht3, hq3⟩
        · refine r1_get hC hK.1 (hW.ob (show jV M 5 i from (by show i < nR M; omega))) lay_X5 rfl 5 (by decide) fl_X0_68 (fun x hx => hx) (v := .null) (show some (va_rf (jp ja 2 (M 22 i))) = _ by rw [show M 22 i = -1 from hq3, jp_n]; rfl) dX0_workerFor_26 ?_
          refine lv_aload_n hx hb dX0_workerFor_29 rfl (lv_at hl 3 rfl) ?_
          refine lv_acmp_ne (rx := none) (ry := some (ja 2 k)) (tgt := 35) hx hb dX0_workerFor_30 (by decide) (fun _ => ?_) (fun c => absurd c (by simp))
          refine lv_iinc (v := nI (i + 1)) (lv' := [(2, .int (nI (i + 1))), (3, .ref (ja 5 i)), (0, .ref (ja 0 0)), (1, .ref (ja 2 k))]) hx hb dX0_workerFor_35 hl (k := 1) rfl (nI_inc _) (by decide) rfl (fun ls hl => ?_)
          refine lv_goto (tgt := 2) hx hb dX0_workerFor_38 (by decide) ?_
          exact ih1 (i + 1) (by omega) (lt_s hno (by rw [hq3]; exact fun q => nI_m1 (by omega) q.symm)) ls (by omega) (lv_sub hl [0, 2, 3] rfl)
        · have hb3_ := VL_lt hW.cnt ht3
          refine r1_get hC hK.1 (hW.ob (show jV M 5 i from (by show i < nR M; omega))) lay_X5 rfl 5 (by decide) fl_X0_68 (fun x hx => hx) (v := .ref (ja 2 t3)) (show some (va_rf (jp ja 2 (M 22 i))) = _ by rw [show M 22 i = nI t3 from hq3, jp_s _ (by omega)]; rfl) dX0_workerFor_26 ?_
          refine lv_aload_n hx hb dX0_workerFor_29 rfl (lv_at hl 3 rfl) ?_
          refine lv_acmp_ne (rx := some (ja 2 t3)) (ry := some (ja 2 k)) (tgt := 35) hx hb dX0_workerFor_30 (by decide) (fun c_5t => ?_) (fun c_5f => ?_)
          · have c_5t : ¬ t3 = k := fun q => c_5t (by rw [q])
            refine lv_iinc (v := nI (i + 1)) (lv' := [(2, .int (nI (i + 1))), (3, .ref (ja 5 i)), (0, .ref (ja 0 0)), (1, .ref (ja 2 k))]) hx hb dX0_workerFor_35 hl (k := 1) rfl (nI_inc _) (by decide) rfl (fun ls hl => ?_)
            refine lv_goto (tgt := 2) hx hb dX0_workerFor_38 (by decide) ?_
            exact ih1 (i + 1) (by omega) (lt_s hno (by rw [hq3]; exact fun q => c_5t ((nI_eq (by omega) (by omega)).mp q))) ls (by omega) (lv_sub hl [0, 2, 3] rfl)
          · have c_5f : t3 = k := (hW.inj (show jV M 2 t3 from ht3) (show jV M 2 k from h_k)).mp (Option.some.inj c_5f)
            refine lv_aload_n hx hb dX0_workerFor_33 rfl (lv_at hl 0 rfl) ?_
            subst hQ
            exact rt_a (r := some (ja 5 i)) hx hb hr (Or.inl ⟨_, rfl⟩) hlk rfl (by rw [show wlA M k = some i from lastE_one (by omega) (by rw [hq3, c_5f]) (fun q hk e => huq q i hk (by omega) (by rw [e, hq3, c_5f]) (by rw [e]; exact nI_m1 (by omega)))]; rfl) dX0_workerFor_34
  exact loop1 ((nR M - 0) + 1) 0 (Nat.zero_le _) (fun k hk => absurd hk (Nat.not_lt_zero k)) ls (by omega) (lv_sub hl [0, 1, 2] rfl)
set_option maxHeartbeats 4000000 in
set_option maxRecDepth 100000 in
theorem cJ_X0_carrierOf (l : Launch) (G : gG) (d0 mi : Nat) (Rf : Nat → Prop) (ja : Nat → Nat → Nat) (M : MS) (E : ES) (t : Nat) (h_t : t < nT M) (huq : uq21 M) (ht16 : t < 16) : Met l yX0_carrierOf (wB yX0_carrierOf cX0_carrierOf 3 (some (.object "ShelfSwarm$Robot"))) (rmL 4 0 0) (va_Pc [.ref (ja 0 0), .ref (ja 7 t)] (jB G d0 mi Rf ja M E)) (k2_QcV (va_rf (Option.map (ja 5) (carA M t)))) 0 0 fN := by
  refine st_N (own := RX0) (by decide +kernel) rfl (Nat.le_of_ble_eq_true rfl) ?_
  intro p e s m below meth c ls args Q hQ hC hr hlk hnm hl hP
  obtain ⟨hW, hX, hRf⟩ := hP
  have hK := hX.1
  have hx := hC.1
  have hb := hC.2.1
  have hl : lv_has ls 3 [(0, .ref (ja 0 0)), (1, .ref (ja 7 t))] := hl
  have hS : va_S (jA Rf) s.heap s.heap [] := va_S.rf
  refine lv_aload_n hx hb dX0_carrierOf_0 rfl (lv_at hl 0 rfl) ?_
  refine lv_aload_n hx hb dX0_carrierOf_1 rfl (lv_at hl 1 rfl) ?_
  refine cl_p (run_V hC (cJ_X0_robotWith l G d0 mi Rf ja M E t (show t < nT M from h_t) (by assumption) (by omega)) (As := [.ref (ja 7 t)]) (rest := []) rfl rfl ml_X0_61 im_X0_robotWith se_X0_robotWith ini_X0 cd_X0_robotWith ⟨rfl, na_X0_robotWith⟩ jB_blind (hW.recv hK (show jV M 0 0 from rfl) rfl) (jB_at hX hRf hW hS) hl.1 (Nat.le_of_ble_eq_true rfl) ⟨Nat.le_of_ble_eq_true rfl, Nat.le_of_ble_eq_true rfl⟩ ⟨Nat.le_refl _, Nat.le_refl _⟩ rfl dX0_carrierOf_2) ?_
  rcases ho1 : rtA M t with _ | k1
  · refine top_v (y := .null) rfl ?_
    refine lv_astore_nN (lv' := [(2, .null), (0, .ref (ja 0 0)), (1, .ref (ja 7 t))]) hx hb dX0_carrierOf_5 rfl hl (by decide) rfl (fun ls hl => ?_)
    refine lv_aload_nN hx hb dX0_carrierOf_6 rfl (lv_at hl 0 rfl) ?_
    refine lv_ifnullN (tgt := 18) hx hb dX0_carrierOf_7 (by decide) ?_
    refine lv_null hx hb dX0_carrierOf_18 ?_
    refine lv_goto (tgt := 23) hx hb dX0_carrierOf_19 (by decide) ?_
    subst hQ
    exact rt_a (r := none) hx hb hr (Or.inl ⟨_, rfl⟩) hlk rfl (by rw [show carA M t = none from by unfold carA; rw [ho1]]; rfl) dX0_carrierOf_23
  · refine top_v (y := .ref (ja 5 k1)) rfl ?_
    have hlt_k1 := (lastE_lt ho1).1
    refine lv_astore_n (lv' := [(2, .ref (ja 5 k1)), (0, .ref (ja 0 0)), (1, .ref (ja 7 t))]) hx hb dX0_carrierOf_5 rfl hl (by decide) rfl (fun ls hl => ?_)
    refine lv_aload_n hx hb dX0_carrierOf_6 rfl (lv_at hl 0 rfl) ?_
    refine lv_ifnull hx hb dX0_carrierOf_7 ?_
    refine lv_aload_n hx hb dX0_carrierOf_10 rfl (lv_at hl 0 rfl) ?_
    refine r1_get hC hK.1 (hW.ob (show jV M 5 k1 from hlt_k1)) lay_X5 rfl 3 (by decide) fl_X0_65 (fun x hx => hx) (v := .int (M 20 k1)) rfl dX0_carrierOf_11 ?_
    refine lv_iconst (v := 1) hx hb dX0_carrierOf_14 (by decide) ?_
    refine lv_icmp_ne (tgt := 22) hx hb dX0_carrierOf_15 (by decide) (fun c_2t => ?_) (fun c_2f => ?_)
    · refine lv_aload_n hx hb dX0_carrierOf_22 rfl (lv_at hl 0 rfl) ?_
      subst hQ
      exact rt_a (r := some (ja 5 k1)) hx hb hr (Or.inl ⟨_, rfl⟩) hlk rfl (by rw [show carA M t = some k1 from by unfold carA; rw [ho1]; exact if_neg c_2t]; rfl) dX0_carrierOf_23
    · refine lv_null hx hb dX0_carrierOf_18 ?_
      refine lv_goto (tgt := 23) hx hb dX0_carrierOf_19 (by decide) ?_
      subst hQ
      exact rt_a (r := none) hx hb hr (Or.inl ⟨_, rfl⟩) hlk rfl (by rw [show carA M t = none from by unfold carA; rw [ho1]; exact if_pos c_2f]; rfl) dX0_carrierOf_23
set_option maxHeartbeats 4000000 in
set_option maxRecDepth 100000 in
theorem cJ_X0_worksFor (l : Launch) (G : gG) (d0 mi : Nat) (Rf : Nat → Prop) (ja : Nat → Nat → Nat) (M : MS) (E : ES) (s_ : Nat) (h_s_ : s_ < nS M) : Met l yX0_worksFor (wB yX0_worksFor cX0_worksFor 4 (some .boolean)) (rmL 3 0 0) (va_Pc [.ref (ja 0 0), .ref (ja 6 s_)] (jB G d0 mi Rf ja M E)) (k2_QcV (.int (bI (hasB M (nI s_))))) 0 0 fN := by
  refine st_N (own := RX0) (by decide +kernel) rfl (Nat.le_of_ble_eq_true rfl) ?_
  intro p e s m below meth c ls args Q hQ hC hr hlk hnm hl hP
  obtain ⟨hW, hX, hRf⟩ := hP
  have hK := hX.1
  have hx := hC.1
  have hb := hC.2.1
  have hl : lv_has ls 4 [(0, .ref (ja 0 0)), (1, .ref (ja 6 s_))] := hl
  have hS : va_S (jA Rf) s.heap s.heap [] := va_S.rf
  refine lv_iconst (v := 0) hx hb dX0_worksFor_0 (by decide) ?_
  refine lv_istore_n (lv' := [(2, .int 0), (0, .ref (ja 0 0)), (1, .ref (ja 6 s_))]) hx hb dX0_worksFor_1 rfl hl (by decide) rfl (fun ls hl => ?_)
  have loop1 : ∀ (n_ : Nat) (i : Nat) (hi : i ≤ nR M) (hno : ∀ k, k < i → wkB M (nI s_) k = false) (ls : Array Slot), nR M - i < n_ → lv_has ls 4 [(2, .int (nI i)), (0, .ref (ja 0 0)), (1, .ref (ja 6 s_))] → W p l e (rmL 3 0 0) s m args below meth c s.heap [] 0 0 Q (F0 m 2 ls []) := by
    intro n_
    induction n_ with
    | zero => intro i hi hno ls hm hl; omega
    | succ n_ ih1 =>
      intro i hi hno ls hm hl
      have h6 := hW.cnt.R6
      have h3 := hW.cnt.S3
      refine lv_iload_n hx hb dX0_worksFor_2 rfl (lv_at hl 0 rfl) ?_
      refine lv_aload_n hx hb dX0_worksFor_3 rfl (lv_at hl 1 rfl) ?_
      refine r1_get hC hK.1 (hW.ob (show jV M 0 0 from rfl)) lay_X0 rfl 1 (by decide) fl_X0_21 (fun x hx => hx) (v := .ref (ja 10 4)) rfl dX0_worksFor_4 ?_
      refine jw_size hC hK hW.1 (i := 4) (Or.inl (by decide)) ml_X0_44 hl.1 (Nat.le_of_ble_eq_true rfl) ⟨Nat.le_of_ble_eq_true rfl, Nat.le_of_ble_eq_true rfl, Nat.le_refl _, Nat.le_refl _⟩ dX0_worksFor_7 ?_
      refine top_i (y := nI (nR M)) rfl ?_
      refine ln_ge (tgt := 48) (a := i) (b := (nR M)) hx hb dX0_worksFor_10 (by decide) rfl rfl (by omega) (by omega) (fun c_2t => ?_) (fun c_2f => ?_)
      · refine lv_iconst (v := 0) hx hb dX0_worksFor_48 (by decide) ?_
        subst hQ
        exact rt_z hx hb hr hlk (bI_0 (by cases h9 : hasB M (nI s_) with | false => rfl | true => obtain ⟨q, hq1, hq2⟩ := anyB_t.mp h9; rw [hno q (by omega)] at hq2; cases hq2)) dX0_worksFor_49
      · refine lv_aload_n hx hb dX0_worksFor_13 rfl (lv_at hl 1 rfl) ?_
        refine r1_get hC hK.1 (hW.ob (show jV M 0 0 from rfl)) lay_X0 rfl 1 (by decide) fl_X0_21 (fun x hx => hx) (v := .ref (ja 10 4)) rfl dX0_worksFor_14 ?_
        refine lv_iload_n hx hb dX0_worksFor_17 rfl (lv_at hl 0 rfl) ?_
        refine jw_get hC hK hW.1 (i := 4) (j := i) (Or.inl (by decide)) (show i < jn M E 4 from (by show i < nR M; omega)) ml_X0_48 hl.1 (Nat.le_of_ble_eq_true rfl) ⟨Nat.le_of_ble_eq_true rfl, Nat.le_of_ble_eq_true rfl, Nat.le_refl _, Nat.le_refl _⟩ dX0_worksFor_18 ?_
        refine jw_cast hC hK (hW.ob (show jV M 5 i from (by show i < nR M; omega))) rfl cl_X0_52 dX0_worksFor_21 ?_
        rcases (hW.pt.1 _ (show i < nR M from (by show i < nR M; omega))).2 with hq3 | ⟨t3, ht3, hq3⟩
        · refine r1_get hC hK.1 (hW.ob (show jV M 5 i from (by show i < nR M; omega))) lay_X5 rfl 5 (by decide) fl_X0_68 (fun x hx => hx) (v := .null) (show some (va_rf (jp ja 2 (M 22 i))) = _ by rw [show M 22 i = -1 from hq3, jp_n]; rfl) dX0_worksFor_24 ?_
          refine lv_astore_nN (lv' := [(3, .null), (2, .int (nI i)), (0, .ref (ja 0 0)), (1, .ref (ja 6 s_))]) hx hb dX0_worksFor_27 rfl hl (by decide) rfl (fun ls hl => ?_)
          refine lv_aload_nN hx hb dX0_worksFor_28 rfl (lv_at hl 0 rfl) ?_
          refine lv_ifnullN (tgt := 42) hx hb dX0_worksFor_29 (by decide) ?_
          refine lv_iinc (v := nI (i + 1)) (lv' := [(2, .int (nI (i + 1))), (3, .null), (0, .ref (ja 0 0)), (1, .ref (ja 6 s_))]) hx hb dX0_worksFor_42 hl (k := 1) rfl (nI_inc _) (by decide) rfl (fun ls hl => ?_)
          refine lv_goto (tgt := 2) hx hb dX0_worksFor_45 (by decide) ?_
          exact ih1 (i + 1) (by omega) (lt_s hno (by unfold wkB; rw [hq3]; rfl)) ls (by omega) (lv_sub hl [0, 2, 3] rfl)
        · have hb3_ := VL_lt hW.cnt ht3
          refine r1_get hC hK.1 (hW.ob (show jV M 5 i from (by show i < nR M; omega))) lay_X5 rfl 5 (by decide) fl_X0_68 (fun x hx => hx) (v := .ref (ja 2 t3)) (show some (va_rf (jp ja 2 (M 22 i))) = _ by rw [show M 22 i = nI t3 from hq3, jp_s _ (by omega)]; rfl) dX0_worksFor_24 ?_
          refine lv_astore_n (lv' := [(3, .ref (ja 2 t3)), (2, .int (nI i)), (0, .ref (ja 0 0)), (1, .ref (ja 6 s_))]) hx hb dX0_worksFor_27 rfl hl (by decide) rfl (fun ls hl => ?_)
          refine lv_aload_n hx hb dX0_worksFor_28 rfl (lv_at hl 0 rfl) ?_
          refine lv_ifnull hx hb dX0_worksFor_29 ?_
          refine lv_aload_n hx hb dX0_worksFor_32 rfl (lv_at hl 0 rfl) ?_
          rcases hW.pt.2.1 _ (show VL M t3 = true from ht3) with hq4 | ⟨t4, ht4, hq4⟩
          · refine r1_get hC hK.1 (hW.ob (show jV M 2 t3 from ht3)) lay_X2 rfl 3 (by decide) fl_X0_72 (fun x hx => hx) (v := .null) (show some (va_rf (jp ja 6 (M 14 t3))) = _ by rw [show M 14 t3 = -1 from hq4, jp_n]; rfl) dX0_worksFor_33 ?_
            refine lv_aload_n hx hb dX0_worksFor_36 rfl (lv_at hl 3 rfl) ?_
            refine lv_acmp_ne (rx := none) (ry := some (ja 6 s_)) (tgt := 42) hx hb dX0_worksFor_37 (by decide) (fun _ => ?_) (fun c => absurd c (by simp))
            refine lv_iinc (v := nI (i + 1)) (lv' := [(2, .int (nI (i + 1))), (3, .ref (ja 2 t3)), (0, .ref (ja 0 0)), (1, .ref (ja 6 s_))]) hx hb dX0_worksFor_42 hl (k := 1) rfl (nI_inc _) (by decide) rfl (fun ls hl => ?_)
            refine lv_goto (tgt := 2) hx hb dX0_worksFor_45 (by decide) ?_
            exact ih1 (i + 1) (by omega) (lt_s hno (by unfold wkB; rw [Bool.and_eq_false_iff]; right; rw [hq3, ix_nI (by omega), hq4]; exact decide_eq_false (fun z => nI_m1 (by omega) z.symm))) ls (by omega) (lv_sub hl [0, 2, 3] rfl)
          · have hb4_ := hW.cnt.S3
            refine r1_get hC hK.1 (hW.ob (show jV M 2 t3 from ht3)) lay_X2 rfl 3 (by decide) fl_X0_72 (fun x hx => hx) (v := .ref (ja 6 t4)) (show some (va_rf (jp ja 6 (M 14 t3))) = _ by rw [show M 14 t3 = nI t4 from hq4, jp_s _ (by omega)]; rfl) dX0_worksFor_33 ?_
            refine lv_aload_n hx hb dX0_worksFor_36 rfl (lv_at hl 3 rfl) ?_
            refine lv_acmp_ne (rx := some (ja 6 t4)) (ry := some (ja 6 s_)) (tgt := 42) hx hb dX0_worksFor_37 (by decide) (fun c_6t => ?_) (fun c_6f => ?_)
            · have c_6t : ¬ t4 = s_ := fun q => c_6t (by rw [q])
              refine lv_iinc (v := nI (i + 1)) (lv' := [(2, .int (nI (i + 1))), (3, .ref (ja 2 t3)), (0, .ref (ja 0 0)), (1, .ref (ja 6 s_))]) hx hb dX0_worksFor_42 hl (k := 1) rfl (nI_inc _) (by decide) rfl (fun ls hl => ?_)
              refine lv_goto (tgt := 2) hx hb dX0_worksFor_45 (by decide) ?_
              exact ih1 (i + 1) (by omega) (lt_s hno (by unfold wkB; rw [Bool.and_eq_false_iff]; right; rw [hq3, ix_nI (by omega), hq4]; exact decide_eq_false (fun z => c_6t ((nI_eq (by omega) (by omega)).mp z)))) ls (by omega) (lv_sub hl [0, 2, 3] rfl)
            · have c_6f : t4 = s_ := (hW.inj (show jV M 6 t4 from ht4) (show jV M 6 s_ from h_s_)).mp (Option.some.inj c_6f)
              refine lv_iconst (v := 1) hx hb dX0_worksFor_40 (by decide) ?_
              subst hQ
              exact rt_z hx hb hr hlk (bI_1 (anyB_t.mpr ⟨i, by omega, by unfold wkB; rw [hq3, ix_nI (by omega), hq4, c_6f, decide_eq_true (nI_m1 (by omega)), decide_eq_true rfl]; rfl⟩)) dX0_worksFor_41
  exact loop1 ((nR M - 0) + 1) 0 (Nat.zero_le _) (fun k hk => absurd hk (Nat.not_lt_zero k)) ls (by omega) (lv_sub hl [0, 1, 2] rfl)
theorem rfF_in {M : MS} {h z : Nat} {p : Nat × Nat} (hcell : ∀ r, r < nR M → isC (M 18 r)) (hh : h < 64) (hz : z < nR M) (e : rfF M h z = some p) : p.1 < nR M ∧ p.2 ≤ 64 := by
  unfold rfF at e
  split at e
  · cases hd : dGM M (ix (M 18 z)) h with
    | none => rw [hd] at e; cases e
    | some n =>
      rw [hd] at e; cases e
      obtain ⟨j, hj, ej⟩ := hcell z hz
      rw [ej, ix_nI (by omega)] at hd
      exact ⟨hz, dGM_64 hj hh hd⟩
  · cases e
theorem rfF_n {M : MS} {h z : Nat} (c : ¬ M 20 z = 0) : rfF M h z = none := if_neg c
theorem rfF_d {M : MS} {h z : Nat} (c : M 20 z = 0) : rfF M h z = (dGM M (ix (M 18 z)) h).map (fun n => (z, n)) := if_pos c
theorem dG_64 {O : Nat → Bool} {f t n : Nat} (hf : f < 64) (ht : t < 64) (h : dG O f t = some n) : n < 64 := by
  by_cases e : f = t
  · unfold dG at h; rw [if_pos e] at h; cases h; omega
  · have key : ∀ k, (∀ i, i < k → ¬ pth O f i t) → k ≤ 63 ∨ ∀ i, ¬ pth O f i t := by
      intro k
      rcases Nat.lt_or_ge 63 k with q | q
      · intro hk
        right
        intro i hi
        have grow : ∀ m, m ≤ 63 → (m + 1 ≤ fb_ct (swp O f m) 64 ∨ ∀ i, ¬ pth O f i t) := by
          intro m
          induction m with
          | zero => intro _; exact Or.inl (sw_0 hf)
          | succ m ih =>
            intro hm
            rcases ih (by omega) with z | z
            · by_cases hs : ∀ i, i < 64 → swp O f (m + 1) i = swp O f m i
              · right
                intro i hp
                have := sw_stay hs i t ht hp
                obtain ⟨k2, hk2, hp2⟩ := (swp_t ht).mp this
                exact hk k2 (by omega) hp2
              · left
                have := sw_grow hs
                omega
            · exact Or.inr z
        rcases grow 63 (Nat.le_refl _) with z | z
        · have : swp O f 63 t = false := by
            cases e9 : swp O f 63 t with
            | false => rfl
            | true => obtain ⟨k2, hk2, hp2⟩ := (swp_t ht).mp e9; exact absurd hp2 (hk k2 (by omega))
          have := sw_full (O := O) (f := f) ht this
          omega
        · exact z i hi
      · intro _; exact Or.inl q
    have hex : ∃ k, pth O f k t := by
      refine Classical.byContradiction (fun hn => ?_)
      rw [dG_none hf ht e (fun m q => hn ⟨m, q⟩)] at h
      cases h
    obtain ⟨k, hk, hmin⟩ := pk_least _ hex
    rw [dG_some hf ht e hk hmin] at h
    cases h
    rcases key _ hmin with q | q
    · omega
    · exact absurd hk (q _)
set_option maxHeartbeats 4000000 in
set_option maxRecDepth 100000 in
theorem cJ_X0_nearestIdle (l : Launch) (G : gG) (d0 mi : Nat) (Rf : Nat → Prop) (ja : Nat → Nat → Nat) (M : MS) (E : ES) (h : Nat) (h9h : h < 64) (hD : hD_ M E) (hcell : ∀ r, r < nR M → isC (M 18 r)) : Met l yX0_nearestIdle (wB yX0_nearestIdle cX0_nearestIdle 7 (some (.object "ShelfSwarm$Robot"))) (rmL 3 0 0) (va_Pc [.ref (ja 0 0), .int (nI h)] (jB G d0 mi Rf ja M E)) (k2_QcV (va_rf (Option.map (ja 5) ((robB M h).map (fun q => q.1))))) 0 0 fN := by
  refine st_N (own := RX0) (by decide +kernel) rfl (Nat.le_of_ble_eq_true rfl) ?_
  intro p e s m below meth c ls args Q hQ hC hr hlk hnm hl hP
  obtain ⟨hW, hX, hRf⟩ := hP
  have hK := hX.1
  have hx := hC.1
  have hb := hC.2.1
  have hl : lv_has ls 7 [(0, .ref (ja 0 0)), (1, .int (nI h))] := hl
  have hS : va_S (jA Rf) s.heap s.heap [] := va_S.rf
  refine lv_null hx hb dX0_nearestIdle_0 ?_
  refine lv_astore_nN (lv' := [(2, .null), (0, .ref (ja 0 0)), (1, .int (nI h))]) hx hb dX0_nearestIdle_1 rfl hl (by decide) rfl (fun ls hl => ?_)
  refine lv_bipush (v := 64) hx hb dX0_nearestIdle_2 (by decide) ?_
  refine lv_istore_n (lv' := [(3, .int 64), (2, .null), (0, .ref (ja 0 0)), (1, .int (nI h))]) hx hb dX0_nearestIdle_4 rfl hl (by decide) rfl (fun ls hl => ?_)
  refine lv_iconst (v := 0) hx hb dX0_nearestIdle_5 (by decide) ?_
  refine lv_istore (lv' := [(4, .int 0), (3, .int 64), (2, .null), (0, .ref (ja 0 0)), (1, .int (nI h))]) hx hb dX0_nearestIdle_6 hl (by decide) rfl (fun ls hl => ?_)
  have loop1 : ∀ (n_ : Nat) (i : Nat) (B : Option (Nat × Nat)) (hi : i ≤ nR M) (hB : bst (rfF M h) i = B) (ls : Array Slot), nR M - i < n_ → lv_has ls 7 [(4, .int (nI i)), (3, .int (nxL B)), (2, va_rf (Option.map (ja 5) (B.map (fun q => q.1)))), (0, .ref (ja 0 0)), (1, .int (nI h))] → W p l e (rmL 3 0 0) s m args below meth c s.heap [] 0 0 Q (F0 m 8 ls []) := by
    intro n_
    induction n_ with
    | zero => intro i B hi hB ls hm hl; omega
    | succ n_ ih1 =>
      intro i B hi hB ls hm hl
      have h6 := hW.cnt.R6
      rcases B with _ | ⟨p1, p2⟩
      · have hl : lv_has ls 7 [(4, .int (nI i)), (3, .int 64), (2, .null), (0, .ref (ja 0 0)), (1, .int (nI h))] := hl
        refine lv_iload hx hb dX0_nearestIdle_8 (lv_at hl 0 rfl) ?_
        refine lv_aload_n hx hb dX0_nearestIdle_10 rfl (lv_at hl 3 rfl) ?_
        refine r1_get hC hK.1 (hW.ob (show jV M 0 0 from rfl)) lay_X0 rfl 1 (by decide) fl_X0_21 (fun x hx => hx) (v := .ref (ja 10 4)) rfl dX0_nearestIdle_11 ?_
        refine jw_size hC hK hW.1 (i := 4) (Or.inl (by decide)) ml_X0_44 hl.1 (Nat.le_of_ble_eq_true rfl) ⟨Nat.le_of_ble_eq_true rfl, Nat.le_of_ble_eq_true rfl, Nat.le_refl _, Nat.le_refl _⟩ dX0_nearestIdle_14 ?_
        refine top_i (y := nI (nR M)) rfl ?_
        refine ln_ge (tgt := 82) (a := i) (b := (nR M)) hx hb dX0_nearestIdle_17 (by decide) rfl rfl (by omega) (by omega) (fun c_2t => ?_) (fun c_2f => ?_)
        · refine lv_aload_nN hx hb dX0_nearestIdle_82 rfl (lv_at hl 2 rfl) ?_
          subst hQ
          exact rt_a (r := none) hx hb hr (Or.inl ⟨_, rfl⟩) hlk rfl (by rw [show Option.map (fun q => q.1) (robB M h) = none from by unfold robB; rw [show nR M = i by omega, hB]; rfl]; rfl) dX0_nearestIdle_83
        · refine lv_aload_n hx hb dX0_nearestIdle_20 rfl (lv_at hl 3 rfl) ?_
          refine r1_get hC hK.1 (hW.ob (show jV M 0 0 from rfl)) lay_X0 rfl 1 (by decide) fl_X0_21 (fun x hx => hx) (v := .ref (ja 10 4)) rfl dX0_nearestIdle_21 ?_
          refine lv_iload hx hb dX0_nearestIdle_24 (lv_at hl 0 rfl) ?_
          refine jw_get hC hK hW.1 (i := 4) (j := i) (Or.inl (by decide)) (show i < jn M E 4 from (by show i < nR M; omega)) ml_X0_48 hl.1 (Nat.le_of_ble_eq_true rfl) ⟨Nat.le_of_ble_eq_true rfl, Nat.le_of_ble_eq_true rfl, Nat.le_refl _, Nat.le_refl _⟩ dX0_nearestIdle_26 ?_
          refine jw_cast hC hK (hW.ob (show jV M 5 i from (by show i < nR M; omega))) rfl cl_X0_52 dX0_nearestIdle_29 ?_
          refine lv_astore (lv' := [(5, .ref (ja 5 i)), (4, .int (nI i)), (3, .int 64), (2, .null), (0, .ref (ja 0 0)), (1, .int (nI h))]) hx hb dX0_nearestIdle_32 hl (by decide) rfl (fun ls hl => ?_)
          refine lv_aload hx hb dX0_nearestIdle_34 (lv_at hl 0 rfl) ?_
          refine r1_get hC hK.1 (hW.ob (show jV M 5 i from (by show i < nR M; omega))) lay_X5 rfl 3 (by decide) fl_X0_65 (fun x hx => hx) (v := .int (M 20 i)) rfl dX0_nearestIdle_36 ?_
          refine lv_if_ne (tgt := 76) hx hb dX0_nearestIdle_39 (by decide) (fun c_3t => ?_) (fun c_3f => ?_)
          · refine lv_iinc (v := nI (i + 1)) (lv' := [(4, .int (nI (i + 1))), (5, .ref (ja 5 i)), (3, .int 64), (2, .null), (0, .ref (ja 0 0)), (1, .int (nI h))]) hx hb dX0_nearestIdle_76 hl (k := 1) rfl (nI_inc _) (by decide) rfl (fun ls hl => ?_)
            refine lv_goto (tgt := 8) hx hb dX0_nearestIdle_79 (by decide) ?_
            exact ih1 (i + 1) none (by omega) ((bst_skip (rfF_n c_3t)).trans hB) ls (by omega) (lv_sub hl [0, 2, 3, 4, 5] rfl)
          · have hz0 := c_3f
            obtain ⟨j, hj, ej⟩ := hcell i (by omega)
            refine lv_aload_n hx hb dX0_nearestIdle_42 rfl (lv_at hl 4 rfl) ?_
            refine r1_get hC hK.1 (hW.ob (show jV M 0 0 from rfl)) lay_X0 rfl 0 (by decide) fl_X0_12 (fun x hx => hx) (v := .ref (ja 1 0)) rfl dX0_nearestIdle_43 ?_
            refine lv_aload hx hb dX0_nearestIdle_46 (lv_at hl 0 rfl) ?_
            refine r1_get hC hK.1 (hW.ob (show jV M 5 i from (by show i < nR M; omega))) lay_X5 rfl 2 (by decide) fl_X0_54 (fun x hx => hx) (v := .int (nI j)) (congrArg (fun z => some (Value.int z)) ej) dX0_nearestIdle_48 ?_
            refine lv_iload_n hx hb dX0_nearestIdle_51 rfl (lv_at hl 5 rfl) ?_
            refine lv_iconst (v := (-1)) hx hb dX0_nearestIdle_52 (by decide) ?_
            refine cl_p (run_V hC (cJ_X1_stepsBetween l G d0 mi Rf ja M E j h (-1) (by omega) (by omega)) (As := [.int (nI j), .int (nI h), .int (-1)]) (rest := []) rfl rfl ml_X0_78 im_X1_stepsBetween se_X1_stepsBetween ini_X1 cd_X1_stepsBetween ⟨rfl, na_X1_stepsBetween⟩ jB_blind (hW.recv hK (show jV M 1 0 from rfl) rfl) (jB_at hX hRf hW hS) hl.1 (Nat.le_of_ble_eq_true rfl) ⟨Nat.le_of_ble_eq_true rfl, Nat.le_of_ble_eq_true rfl⟩ ⟨Nat.le_refl _, Nat.le_refl _⟩ rfl dX0_nearestIdle_53) ?_
            have hgm := dG_X hD hj h9h
            rcases hd : dG (frE M E (-1)) j h with _ | d
            · have hr9 : rfF M h i = none := by rw [rfF_d hz0, ej, ix_nI (by omega), ← hgm, hd]; rfl
              refine top_i (y := -1) rfl ?_
              refine lv_istore (lv' := [(6, .int (-1)), (5, .ref (ja 5 i)), (4, .int (nI i)), (3, .int 64), (2, .null), (0, .ref (ja 0 0)), (1, .int (nI h))]) hx hb dX0_nearestIdle_56 hl (by decide) rfl (fun ls hl => ?_)
              refine lv_iload hx hb dX0_nearestIdle_58 (lv_at hl 0 rfl) ?_
              refine lv_iconst (v := (-1)) hx hb dX0_nearestIdle_60 (by decide) ?_
              refine lv_icmp_eq (tgt := 76) hx hb dX0_nearestIdle_61 (by decide) (fun _ => ?_) (fun c => absurd c (by decide))
              refine lv_iinc (v := nI (i + 1)) (lv' := [(4, .int (nI (i + 1))), (6, .int (-1)), (5, .ref (ja 5 i)), (3, .int 64), (2, .null), (0, .ref (ja 0 0)), (1, .int (nI h))]) hx hb dX0_nearestIdle_76 hl (k := 2) rfl (nI_inc _) (by decide) rfl (fun ls hl => ?_)
              refine lv_goto (tgt := 8) hx hb dX0_nearestIdle_79 (by decide) ?_
              exact ih1 (i + 1) none (by omega) ((bst_skip hr9).trans hB) ls (by omega) (lv_sub hl [0, 3, 4, 5, 6] rfl)
            · have hr9 : rfF M h i = some (i, d) := by rw [rfF_d hz0, ej, ix_nI (by omega), ← hgm, hd]; rfl
              have hd64 : d < 64 := dG_64 hj h9h hd
              refine top_i (y := nI d) rfl ?_
              refine lv_istore (lv' := [(6, .int (nI d)), (5, .ref (ja 5 i)), (4, .int (nI i)), (3, .int 64), (2, .null), (0, .ref (ja 0 0)), (1, .int (nI h))]) hx hb dX0_nearestIdle_56 hl (by decide) rfl (fun ls hl => ?_)
              refine lv_iload hx hb dX0_nearestIdle_58 (lv_at hl 0 rfl) ?_
              refine lv_iconst (v := (-1)) hx hb dX0_nearestIdle_60 (by decide) ?_
              refine lv_icmp_eq (tgt := 76) hx hb dX0_nearestIdle_61 (by decide) (fun c => absurd c (nI_m1 (by omega))) (fun _ => ?_)
              refine lv_iload hx hb dX0_nearestIdle_64 (lv_at hl 0 rfl) ?_
              refine lv_iload_n hx hb dX0_nearestIdle_66 rfl (lv_at hl 3 rfl) ?_
              refine ln_ge (tgt := 76) (a := d) (b := 64) hx hb dX0_nearestIdle_67 (by decide) rfl rfl (by omega) (by omega) (fun c_6t => ?_) (fun c_6f => ?_)
              · exact absurd c_6t (by omega)
              · refine lv_aload hx hb dX0_nearestIdle_70 (lv_at hl 1 rfl) ?_
                refine lv_astore_n (lv' := [(2, .ref (ja 5 i)), (6, .int (nI d)), (5, .ref (ja 5 i)), (4, .int (nI i)), (3, .int 64), (0, .ref (ja 0 0)), (1, .int (nI h))]) hx hb dX0_nearestIdle_72 rfl hl (by decide) rfl (fun ls hl => ?_)
                refine lv_iload hx hb dX0_nearestIdle_73 (lv_at hl 1 rfl) ?_
                refine lv_istore_n (lv' := [(3, .int (nI d)), (2, .ref (ja 5 i)), (6, .int (nI d)), (5, .ref (ja 5 i)), (4, .int (nI i)), (0, .ref (ja 0 0)), (1, .int (nI h))]) hx hb dX0_nearestIdle_75 rfl hl (by decide) rfl (fun ls hl => ?_)
                refine lv_iinc (v := nI (i + 1)) (lv' := [(4, .int (nI (i + 1))), (3, .int (nI d)), (2, .ref (ja 5 i)), (6, .int (nI d)), (5, .ref (ja 5 i)), (0, .ref (ja 0 0)), (1, .int (nI h))]) hx hb dX0_nearestIdle_76 hl (k := 4) rfl (nI_inc _) (by decide) rfl (fun ls hl => ?_)
                refine lv_goto (tgt := 8) hx hb dX0_nearestIdle_79 (by decide) ?_
                exact ih1 (i + 1) (some (i, d)) (by omega) (bst_new hr9 hB) ls (by omega) (lv_sub hl [0, 1, 2, 5, 6] rfl)
      · have hl : lv_has ls 7 [(4, .int (nI i)), (3, .int (nI p2)), (2, .ref (ja 5 p1)), (0, .ref (ja 0 0)), (1, .int (nI h))] := hl
        have hp1 : p1 < nR M ∧ p2 ≤ 64 := by obtain ⟨z, hz, h9⟩ := bst_in hB; exact rfF_in hcell h9h (by omega) h9
        refine lv_iload hx hb dX0_nearestIdle_8 (lv_at hl 0 rfl) ?_
        refine lv_aload_n hx hb dX0_nearestIdle_10 rfl (lv_at hl 3 rfl) ?_
        refine r1_get hC hK.1 (hW.ob (show jV M 0 0 from rfl)) lay_X0 rfl 1 (by decide) fl_X0_21 (fun x hx => hx) (v := .ref (ja 10 4)) rfl dX0_nearestIdle_11 ?_
        refine jw_size hC hK hW.1 (i := 4) (Or.inl (by decide)) ml_X0_44 hl.1 (Nat.le_of_ble_eq_true rfl) ⟨Nat.le_of_ble_eq_true rfl, Nat.le_of_ble_eq_true rfl, Nat.le_refl _, Nat.le_refl _⟩ dX0_nearestIdle_14 ?_
        refine top_i (y := nI (nR M)) rfl ?_
        refine ln_ge (tgt := 82) (a := i) (b := (nR M)) hx hb dX0_nearestIdle_17 (by decide) rfl rfl (by omega) (by omega) (fun c_7t => ?_) (fun c_7f => ?_)
        · refine lv_aload_n hx hb dX0_nearestIdle_82 rfl (lv_at hl 2 rfl) ?_
          subst hQ
          exact rt_a (r := some (ja 5 p1)) hx hb hr (Or.inl ⟨_, rfl⟩) hlk rfl (by rw [show Option.map (fun q => q.1) (robB M h) = some p1 from by unfold robB; rw [show nR M = i by omega, hB]; rfl]; rfl) dX0_nearestIdle_83
        · refine lv_aload_n hx hb dX0_nearestIdle_20 rfl (lv_at hl 3 rfl) ?_
          refine r1_get hC hK.1 (hW.ob (show jV M 0 0 from rfl)) lay_X0 rfl 1 (by decide) fl_X0_21 (fun x hx => hx) (v := .ref (ja 10 4)) rfl dX0_nearestIdle_21 ?_
          refine lv_iload hx hb dX0_nearestIdle_24 (lv_at hl 0 rfl) ?_
          refine jw_get hC hK hW.1 (i := 4) (j := i) (Or.inl (by decide)) (show i < jn M E 4 from (by show i < nR M; omega)) ml_X0_48 hl.1 (Nat.le_of_ble_eq_true rfl) ⟨Nat.le_of_ble_eq_true rfl, Nat.le_of_ble_eq_true rfl, Nat.le_refl _, Nat.le_refl _⟩ dX0_nearestIdle_26 ?_
          refine jw_cast hC hK (hW.ob (show jV M 5 i from (by show i < nR M; omega))) rfl cl_X0_52 dX0_nearestIdle_29 ?_
          refine lv_astore (lv' := [(5, .ref (ja 5 i)), (4, .int (nI i)), (3, .int (nI p2)), (2, .ref (ja 5 p1)), (0, .ref (ja 0 0)), (1, .int (nI h))]) hx hb dX0_nearestIdle_32 hl (by decide) rfl (fun ls hl => ?_)
          refine lv_aload hx hb dX0_nearestIdle_34 (lv_at hl 0 rfl) ?_
          refine r1_get hC hK.1 (hW.ob (show jV M 5 i from (by show i < nR M; omega))) lay_X5 rfl 3 (by decide) fl_X0_65 (fun x hx => hx) (v := .int (M 20 i)) rfl dX0_nearestIdle_36 ?_
          refine lv_if_ne (tgt := 76) hx hb dX0_nearestIdle_39 (by decide) (fun c_8t => ?_) (fun c_8f => ?_)
          · refine lv_iinc (v := nI (i + 1)) (lv' := [(4, .int (nI (i + 1))), (5, .ref (ja 5 i)), (3, .int (nI p2)), (2, .ref (ja 5 p1)), (0, .ref (ja 0 0)), (1, .int (nI h))]) hx hb dX0_nearestIdle_76 hl (k := 1) rfl (nI_inc _) (by decide) rfl (fun ls hl => ?_)
            refine lv_goto (tgt := 8) hx hb dX0_nearestIdle_79 (by decide) ?_
            exact ih1 (i + 1) (some (p1, p2)) (by omega) ((bst_skip (rfF_n c_8t)).trans hB) ls (by omega) (lv_sub hl [0, 2, 3, 4, 5] rfl)
          · have hz0 := c_8f
            obtain ⟨j, hj, ej⟩ := hcell i (by omega)
            refine lv_aload_n hx hb dX0_nearestIdle_42 rfl (lv_at hl 4 rfl) ?_
            refine r1_get hC hK.1 (hW.ob (show jV M 0 0 from rfl)) lay_X0 rfl 0 (by decide) fl_X0_12 (fun x hx => hx) (v := .ref (ja 1 0)) rfl dX0_nearestIdle_43 ?_
            refine lv_aload hx hb dX0_nearestIdle_46 (lv_at hl 0 rfl) ?_
            refine r1_get hC hK.1 (hW.ob (show jV M 5 i from (by show i < nR M; omega))) lay_X5 rfl 2 (by decide) fl_X0_54 (fun x hx => hx) (v := .int (nI j)) (congrArg (fun z => some (Value.int z)) ej) dX0_nearestIdle_48 ?_
            refine lv_iload_n hx hb dX0_nearestIdle_51 rfl (lv_at hl 5 rfl) ?_
            refine lv_iconst (v := (-1)) hx hb dX0_nearestIdle_52 (by decide) ?_
            refine cl_p (run_V hC (cJ_X1_stepsBetween l G d0 mi Rf ja M E j h (-1) (by omega) (by omega)) (As := [.int (nI j), .int (nI h), .int (-1)]) (rest := []) rfl rfl ml_X0_78 im_X1_stepsBetween se_X1_stepsBetween ini_X1 cd_X1_stepsBetween ⟨rfl, na_X1_stepsBetween⟩ jB_blind (hW.recv hK (show jV M 1 0 from rfl) rfl) (jB_at hX hRf hW hS) hl.1 (Nat.le_of_ble_eq_true rfl) ⟨Nat.le_of_ble_eq_true rfl, Nat.le_of_ble_eq_true rfl⟩ ⟨Nat.le_refl _, Nat.le_refl _⟩ rfl dX0_nearestIdle_53) ?_
            have hgm := dG_X hD hj h9h
            rcases hd : dG (frE M E (-1)) j h with _ | d
            · have hr9 : rfF M h i = none := by rw [rfF_d hz0, ej, ix_nI (by omega), ← hgm, hd]; rfl
              refine top_i (y := -1) rfl ?_
              refine lv_istore (lv' := [(6, .int (-1)), (5, .ref (ja 5 i)), (4, .int (nI i)), (3, .int (nI p2)), (2, .ref (ja 5 p1)), (0, .ref (ja 0 0)), (1, .int (nI h))]) hx hb dX0_nearestIdle_56 hl (by decide) rfl (fun ls hl => ?_)
              refine lv_iload hx hb dX0_nearestIdle_58 (lv_at hl 0 rfl) ?_
              refine lv_iconst (v := (-1)) hx hb dX0_nearestIdle_60 (by decide) ?_
              refine lv_icmp_eq (tgt := 76) hx hb dX0_nearestIdle_61 (by decide) (fun _ => ?_) (fun c => absurd c (by decide))
              refine lv_iinc (v := nI (i + 1)) (lv' := [(4, .int (nI (i + 1))), (6, .int (-1)), (5, .ref (ja 5 i)), (3, .int (nI p2)), (2, .ref (ja 5 p1)), (0, .ref (ja 0 0)), (1, .int (nI h))]) hx hb dX0_nearestIdle_76 hl (k := 2) rfl (nI_inc _) (by decide) rfl (fun ls hl => ?_)
              refine lv_goto (tgt := 8) hx hb dX0_nearestIdle_79 (by decide) ?_
              exact ih1 (i + 1) (some (p1, p2)) (by omega) ((bst_skip hr9).trans hB) ls (by omega) (lv_sub hl [0, 3, 4, 5, 6] rfl)
            · have hr9 : rfF M h i = some (i, d) := by rw [rfF_d hz0, ej, ix_nI (by omega), ← hgm, hd]; rfl
              have hd64 : d < 64 := dG_64 hj h9h hd
              refine top_i (y := nI d) rfl ?_
              refine lv_istore (lv' := [(6, .int (nI d)), (5, .ref (ja 5 i)), (4, .int (nI i)), (3, .int (nI p2)), (2, .ref (ja 5 p1)), (0, .ref (ja 0 0)), (1, .int (nI h))]) hx hb dX0_nearestIdle_56 hl (by decide) rfl (fun ls hl => ?_)
              refine lv_iload hx hb dX0_nearestIdle_58 (lv_at hl 0 rfl) ?_
              refine lv_iconst (v := (-1)) hx hb dX0_nearestIdle_60 (by decide) ?_
              refine lv_icmp_eq (tgt := 76) hx hb dX0_nearestIdle_61 (by decide) (fun c => absurd c (nI_m1 (by omega))) (fun _ => ?_)
              refine lv_iload hx hb dX0_nearestIdle_64 (lv_at hl 0 rfl) ?_
              refine lv_iload_n hx hb dX0_nearestIdle_66 rfl (lv_at hl 3 rfl) ?_
              refine ln_ge (tgt := 76) (a := d) (b := p2) hx hb dX0_nearestIdle_67 (by decide) rfl rfl (by omega) (by omega) (fun c_11t => ?_) (fun c_11f => ?_)
              · refine lv_iinc (v := nI (i + 1)) (lv' := [(4, .int (nI (i + 1))), (6, .int (nI d)), (5, .ref (ja 5 i)), (3, .int (nI p2)), (2, .ref (ja 5 p1)), (0, .ref (ja 0 0)), (1, .int (nI h))]) hx hb dX0_nearestIdle_76 hl (k := 2) rfl (nI_inc _) (by decide) rfl (fun ls hl => ?_)
                refine lv_goto (tgt := 8) hx hb dX0_nearestIdle_79 (by decide) ?_
                exact ih1 (i + 1) (some (p1, p2)) (by omega) (bst_ge hr9 hB (by show ¬ d < p2; omega)) ls (by omega) (lv_sub hl [0, 3, 4, 5, 6] rfl)
              · refine lv_aload hx hb dX0_nearestIdle_70 (lv_at hl 1 rfl) ?_
                refine lv_astore_n (lv' := [(2, .ref (ja 5 i)), (6, .int (nI d)), (5, .ref (ja 5 i)), (4, .int (nI i)), (3, .int (nI p2)), (0, .ref (ja 0 0)), (1, .int (nI h))]) hx hb dX0_nearestIdle_72 rfl hl (by decide) rfl (fun ls hl => ?_)
                refine lv_iload hx hb dX0_nearestIdle_73 (lv_at hl 1 rfl) ?_
                refine lv_istore_n (lv' := [(3, .int (nI d)), (2, .ref (ja 5 i)), (6, .int (nI d)), (5, .ref (ja 5 i)), (4, .int (nI i)), (0, .ref (ja 0 0)), (1, .int (nI h))]) hx hb dX0_nearestIdle_75 rfl hl (by decide) rfl (fun ls hl => ?_)
                refine lv_iinc (v := nI (i + 1)) (lv' := [(4, .int (nI (i + 1))), (3, .int (nI d)), (2, .ref (ja 5 i)), (6, .int (nI d)), (5, .ref (ja 5 i)), (0, .ref (ja 0 0)), (1, .int (nI h))]) hx hb dX0_nearestIdle_76 hl (k := 4) rfl (nI_inc _) (by decide) rfl (fun ls hl => ?_)
                refine lv_goto (tgt := 8) hx hb dX0_nearestIdle_79 (by decide) ?_
                exact ih1 (i + 1) (some (i, d)) (by omega) (bst_lt hr9 hB (by show d < p2; omega)) ls (by omega) (lv_sub hl [0, 1, 2, 5, 6] rfl)
  exact loop1 ((nR M - 0) + 1) 0 none (Nat.zero_le _) rfl ls (by omega) (lv_sub hl [0, 1, 2, 3, 4] rfl)
