/-! JAVA'S LISTS, as cells: a list object, its array -/
def lf (n : Nat) (f : Nat → Nat) : Nat → Option Nat := fun j => if j < n then some (f j) else none
def fup (f : Nat → Nat) (n x : Nat) : Nat → Nat := fun j => if j = n then x else f j
abbrev LO (G : gG) (q arr n : Nat) (md : Int32) (H : Heap) : Prop := va_at G.1 gCl (q, .inr (10, [.int md, .ref arr, .int (nI n)])) H
abbrev LA (G : gG) (arr cap n : Nat) (f : Nat → Nat) (H : Heap) : Prop := va_at G.1 gCl (arr, qE G cap (lf n f)) H
def gX (G : gG) (d0 mi : Nat) (A : Nat → Prop) (S : State) : Prop := gK G S ∧ gJ mi S ∧ va_Z "java/util/ArrayList" "DEFAULTCAPACITY_EMPTY_ELEMENTDATA" "[Ljava/lang/Object;" (.ref d0) A S S.heap ∧ va_T (.object "java/lang/Object") d0 0 (fun _ => .null) A S S.heap
theorem gX.blind {G : gG} {d0 mi : Nat} {A : Nat → Prop} {U : State} {g : JFrame} {mk : MethodId} {a : Array Value} (h : gX G d0 mi A U) : gX G d0 mi A (U.calling g mk a) :=
  ⟨h.1.blind, h.2.1.blind, va_Z.moved (u := U) (U := U.calling g mk a) (Vm.Alike.refl U.vm) h.2.2.1, va_T.moved (u := U) (U := U.calling g mk a) (Vm.Alike.refl U.vm) h.2.2.2⟩
theorem gX.at {G : gG} {d0 mi : Nat} {A B : Nat → Prop} {s U : State} {H : Heap} {locs : List Loc} (h : gX G d0 mi A s) (hS : va_S A s.heap H locs) (hAB : ∀ z, B z → A z) (hU : U.heap = H) (hW : s.WarmedH U.vm) : gX G d0 mi B U := by
  have hq : ∀ a : Nat, a < s.heap.size → ¬ A a → H[a]? = s.heap[a]? := fun a h1 h2 => hS.2.1 a h1 h2
  refine ⟨h.1.warm hW, h.2.1.warm hW, ?_, ?_⟩
  · rw [hU]; exact va_Z.moved hW.alike (va_Z.narrow (va_Z.kept h.2.2.1 hq) hAB)
  · rw [hU]; exact va_T.moved hW.alike (va_T.narrow (va_T.kept h.2.2.2 hq) hAB)
theorem gAny.moved {u U : State} {H : Heap} {a : Nat} (hvm : u.vm.Alike U.vm) (h : gAny u H a) : gAny U H a := by
  obtain ⟨cV, h1, h2, ⟨kC, h3⟩, h4⟩ := h
  obtain ⟨k', hk', -⟩ := hvm.2.2 _ _ h3
  exact ⟨cV, h1, h2, ⟨k', hk'⟩, fun comp hc => by rw [hvm.assignable]; exact h4 comp (by rw [← hvm.findClass]; exact hc)⟩
theorem oB_blind {G : gG} {q : Nat × va_E} {av : List Value} : FrameBlind (va_Pc av (fun S => va_at G.1 gCl q S.heap ∧ gK G S)) := fun _ _ _ _ h => ⟨h.1, h.2.1, h.2.2.blind⟩
theorem oaB_blind {G : gG} {q r : Nat × va_E} {av : List Value} : FrameBlind (va_Pc av (fun S => va_at G.1 gCl q S.heap ∧ va_at G.1 gCl r S.heap ∧ gK G S)) := fun _ _ _ _ h => ⟨h.1, h.2.1, h.2.2.1, h.2.2.2.blind⟩
theorem lf_in {n : Nat} {f : Nat → Nat} {i : Nat} (h : i < n) : lf n f i = some (f i) := if_pos h
theorem lf_lt {n : Nat} {f : Nat → Nat} {i y : Nat} (h : lf n f i = some y) : i < n ∧ f i = y := by
  unfold lf at h
  split at h
  · cases h; exact ⟨by assumption, rfl⟩
  · cases h
theorem lf_up {n : Nat} {f : Nat → Nat} {x : Nat} (j : Nat) : va_up (lf n f) n (some x) j = lf (n + 1) (fup f n x) j := by
  unfold va_up lf fup
  by_cases e : j = n
  · rw [if_pos e, if_pos (by omega), if_pos e]
  · rw [if_neg e, if_neg e]
    by_cases h : j < n
    · rw [if_pos h, if_pos (by omega)]
    · rw [if_neg h, if_neg (by omega)]
theorem ls_recv {G : gG} {s : State} {H : Heap} {a ci : Nat} {q : vw_C} {fs : List Value} (hK : gK G s) (h : va_at G.1 gCl (a, .inr (ci, fs)) H) (hc : gCl[ci]? = some q) : ∃ cell : Cell, H[a]? = some cell ∧ cell.vm.isStatics = false ∧ s.vm.findClass q.1 = some cell.cls := va_at_cell hK.1 h hc
def rvA (q N : Nat) : Nat → Prop := fun z => z = q ∨ N ≤ z
def rvB (q arr N : Nat) : Nat → Prop := fun z => z = q ∨ z = arr ∨ N ≤ z
theorem na_X8_init : nArgs yX8_init 0 := ⟨by decide, by decide, by decide +kernel⟩
theorem na_X0_init : nArgs yX0_init 0 := ⟨by decide, by decide, by decide +kernel⟩
theorem na_X1_init : nArgs yX1_init 0 := ⟨by decide, by decide, by decide +kernel⟩
theorem na_Jx4a65c_init_da8c8 : nArgs yJx4a65c_init_da8c8 0 := ⟨by decide, by decide, by decide +kernel⟩
theorem na_Jxc12de_init_da8c8 : nArgs yJxc12de_init_da8c8 0 := ⟨by decide, by decide, by decide +kernel⟩
theorem na_Jxa1e45_init_da8c8 : nArgs yJxa1e45_init_da8c8 0 := ⟨by decide, by decide, by decide +kernel⟩
theorem na_X8_time : nArgs yX8_time 0 := ⟨by decide, by decide, by decide +kernel⟩
theorem na_X8_steps : nArgs yX8_steps 0 := ⟨by decide, by decide, by decide +kernel⟩
theorem na_X8_rings : nArgs yX8_rings 0 := ⟨by decide, by decide, by decide +kernel⟩
theorem na_X8_yields : nArgs yX8_yields 0 := ⟨by decide, by decide, by decide +kernel⟩
theorem na_X8_knots : nArgs yX8_knots 0 := ⟨by decide, by decide, by decide +kernel⟩
theorem na_X8_picks : nArgs yX8_picks 0 := ⟨by decide, by decide, by decide +kernel⟩
theorem na_Jx4a65c_size_8abf5 : nArgs yJx4a65c_size_8abf5 0 := ⟨by decide, by decide, by decide +kernel⟩
theorem na_X8_wall : nArgs yX8_wall 1 := ⟨by decide, by decide, by decide +kernel⟩
theorem na_X8_requireCell : nArgs yX8_requireCell 1 := ⟨by decide, by decide, by decide +kernel⟩
theorem na_X8_requireRange : nArgs yX8_requireRange 3 := ⟨by decide, by decide, by decide +kernel⟩
theorem na_X1_isWall : nArgs yX1_isWall 1 := ⟨by decide, by decide, by decide +kernel⟩
theorem na_X1_setOf : nArgs yX1_setOf 1 := ⟨by decide, by decide, by decide +kernel⟩
theorem na_X8_isHome : nArgs yX8_isHome 1 := ⟨by decide, by decide, by decide +kernel⟩
theorem na_Jx4a65c_get_915e3 : nArgs yJx4a65c_get_915e3 1 := ⟨by decide, by decide, by decide +kernel⟩
theorem na_J15_checkIndex_7cf53 : nArgs yJ15_checkIndex_7cf53 2 := ⟨by decide, by decide, by decide +kernel⟩
theorem na_J3_checkIndex_8e157 : nArgs yJ3_checkIndex_8e157 3 := ⟨by decide, by decide, by decide +kernel⟩
theorem na_Jx4a65c_elementData_915e3 : nArgs yJx4a65c_elementData_915e3 1 := ⟨by decide, by decide, by decide +kernel⟩
theorem na_X8_isStation : nArgs yX8_isStation 1 := ⟨by decide, by decide, by decide +kernel⟩
theorem na_X0_robotAt : nArgs yX0_robotAt 1 := ⟨by decide, by decide, by decide +kernel⟩
theorem na_X1_buildWall : nArgs yX1_buildWall 1 := ⟨by decide, by decide, by decide +kernel⟩
theorem na_X8_setClosed : nArgs yX8_setClosed 2 := ⟨by decide, by decide, by decide +kernel⟩
theorem na_X1_isClosed : nArgs yX1_isClosed 1 := ⟨by decide, by decide, by decide +kernel⟩
theorem na_X1_markClosed : nArgs yX1_markClosed 2 := ⟨by decide, by decide, by decide +kernel⟩
theorem na_X8_distance : nArgs yX8_distance 2 := ⟨by decide, by decide, by decide +kernel⟩
theorem na_X1_stepsBetween : nArgs yX1_stepsBetween 3 := ⟨by decide, by decide, by decide +kernel⟩
theorem na_X1_openCells : nArgs yX1_openCells 0 := ⟨by decide, by decide, by decide +kernel⟩
theorem na_X1_neighboursOf : nArgs yX1_neighboursOf 1 := ⟨by decide, by decide, by decide +kernel⟩
theorem na_X8_addStation : nArgs yX8_addStation 1 := ⟨by decide, by decide, by decide +kernel⟩
theorem na_X6_init : nArgs yX6_init 2 := ⟨by decide, by decide, by decide +kernel⟩
theorem na_Jx4a65c_add_9ea2d : nArgs yJx4a65c_add_9ea2d 1 := ⟨by decide, by decide, by decide +kernel⟩
theorem na_Jx4a65c_add_72be8 : nArgs yJx4a65c_add_72be8 3 := ⟨by decide, by decide, by decide +kernel⟩
theorem na_Jx4a65c_grow_d5877 : nArgs yJx4a65c_grow_d5877 0 := ⟨by decide, by decide, by decide +kernel⟩
theorem na_Jx4a65c_grow_92f84 : nArgs yJx4a65c_grow_92f84 1 := ⟨by decide, by decide, by decide +kernel⟩
theorem na_J8_newLength_cabcc : nArgs yJ8_newLength_cabcc 3 := ⟨by decide, by decide, by decide +kernel⟩
theorem na_J9_max_7cf53 : nArgs yJ9_max_7cf53 2 := ⟨by decide, by decide, by decide +kernel⟩
theorem na_J8_hugeLength_7cf53 : nArgs yJ8_hugeLength_7cf53 2 := ⟨by decide, by decide, by decide +kernel⟩
theorem na_J7_copyOf_1904c : nArgs yJ7_copyOf_1904c 2 := ⟨by decide, by decide, by decide +kernel⟩
theorem na_J7_copyOf_6403c : nArgs yJ7_copyOf_6403c 3 := ⟨by decide, by decide, by decide +kernel⟩
theorem na_J9_min_7cf53 : nArgs yJ9_min_7cf53 2 := ⟨by decide, by decide, by decide +kernel⟩
theorem na_X8_addTray : nArgs yX8_addTray 3 := ⟨by decide, by decide, by decide +kernel⟩
theorem na_X8_requireGood : nArgs yX8_requireGood 1 := ⟨by decide, by decide, by decide +kernel⟩
theorem na_X7_init : nArgs yX7_init 3 := ⟨by decide, by decide, by decide +kernel⟩
theorem na_X7_put : nArgs yX7_put 1 := ⟨by decide, by decide, by decide +kernel⟩
theorem na_X8_fill : nArgs yX8_fill 2 := ⟨by decide, by decide, by decide +kernel⟩
theorem na_X8_findTray : nArgs yX8_findTray 1 := ⟨by decide, by decide, by decide +kernel⟩
theorem na_X8_requireNumber : nArgs yX8_requireNumber 2 := ⟨by decide, by decide, by decide +kernel⟩
theorem na_X0_carrierOf : nArgs yX0_carrierOf 1 := ⟨by decide, by decide, by decide +kernel⟩
theorem na_X0_robotWith : nArgs yX0_robotWith 1 := ⟨by decide, by decide, by decide +kernel⟩
theorem na_X8_addOrder : nArgs yX8_addOrder 0 := ⟨by decide, by decide, by decide +kernel⟩
theorem na_X3_init : nArgs yX3_init 1 := ⟨by decide, by decide, by decide +kernel⟩
theorem na_X8_addLine : nArgs yX8_addLine 3 := ⟨by decide, by decide, by decide +kernel⟩
theorem na_X8_findOrder : nArgs yX8_findOrder 1 := ⟨by decide, by decide, by decide +kernel⟩
theorem na_X2_init : nArgs yX2_init 3 := ⟨by decide, by decide, by decide +kernel⟩
theorem na_X8_claim : nArgs yX8_claim 3 := ⟨by decide, by decide, by decide +kernel⟩
theorem na_X8_findStation : nArgs yX8_findStation 1 := ⟨by decide, by decide, by decide +kernel⟩
theorem na_X8_findLine : nArgs yX8_findLine 2 := ⟨by decide, by decide, by decide +kernel⟩
theorem na_X8_giveUp : nArgs yX8_giveUp 2 := ⟨by decide, by decide, by decide +kernel⟩
theorem na_X0_workerFor : nArgs yX0_workerFor 1 := ⟨by decide, by decide, by decide +kernel⟩
theorem na_X5_leaveLine : nArgs yX5_leaveLine 0 := ⟨by decide, by decide, by decide +kernel⟩
theorem na_X5_become : nArgs yX5_become 1 := ⟨by decide, by decide, by decide +kernel⟩
theorem na_X5_forgetAsking : nArgs yX5_forgetAsking 0 := ⟨by decide, by decide, by decide +kernel⟩
theorem na_X6_forget : nArgs yX6_forget 1 := ⟨by decide, by decide, by decide +kernel⟩
theorem na_Jx4a65c_remove_915e3 : nArgs yJx4a65c_remove_915e3 1 := ⟨by decide, by decide, by decide +kernel⟩
theorem na_Jx4a65c_fastRemove_b59b0 : nArgs yJx4a65c_fastRemove_b59b0 2 := ⟨by decide, by decide, by decide +kernel⟩
theorem na_X8_left : nArgs yX8_left 2 := ⟨by decide, by decide, by decide +kernel⟩
theorem na_X8_claimant : nArgs yX8_claimant 2 := ⟨by decide, by decide, by decide +kernel⟩
theorem na_X8_amount : nArgs yX8_amount 1 := ⟨by decide, by decide, by decide +kernel⟩
theorem na_X8_trayCell : nArgs yX8_trayCell 1 := ⟨by decide, by decide, by decide +kernel⟩
theorem na_X8_addRobot : nArgs yX8_addRobot 2 := ⟨by decide, by decide, by decide +kernel⟩
theorem na_X5_init : nArgs yX5_init 3 := ⟨by decide, by decide, by decide +kernel⟩
theorem na_X8_die : nArgs yX8_die 1 := ⟨by decide, by decide, by decide +kernel⟩
theorem na_X8_findRobot : nArgs yX8_findRobot 1 := ⟨by decide, by decide, by decide +kernel⟩
theorem na_X5_breakDown : nArgs yX5_breakDown 0 := ⟨by decide, by decide, by decide +kernel⟩
theorem na_X1_markDead : nArgs yX1_markDead 2 := ⟨by decide, by decide, by decide +kernel⟩
theorem na_X8_numberOf : nArgs yX8_numberOf 1 := ⟨by decide, by decide, by decide +kernel⟩
theorem na_X8_repair : nArgs yX8_repair 1 := ⟨by decide, by decide, by decide +kernel⟩
theorem na_X8_robotIn : nArgs yX8_robotIn 1 := ⟨by decide, by decide, by decide +kernel⟩
theorem na_X8_cellOf : nArgs yX8_cellOf 1 := ⟨by decide, by decide, by decide +kernel⟩
theorem na_X8_state : nArgs yX8_state 1 := ⟨by decide, by decide, by decide +kernel⟩
theorem na_X8_trayOf : nArgs yX8_trayOf 1 := ⟨by decide, by decide, by decide +kernel⟩
theorem na_X8_asked : nArgs yX8_asked 1 := ⟨by decide, by decide, by decide +kernel⟩
theorem na_X8_tick : nArgs yX8_tick 1 := ⟨by decide, by decide, by decide +kernel⟩
theorem na_X8_pickFromServing : nArgs yX8_pickFromServing 0 := ⟨by decide, by decide, by decide +kernel⟩
theorem na_X8_pick : nArgs yX8_pick 3 := ⟨by decide, by decide, by decide +kernel⟩
theorem na_X4_init : nArgs yX4_init 3 := ⟨by decide, by decide, by decide +kernel⟩
theorem na_X8_sendRobots : nArgs yX8_sendRobots 0 := ⟨by decide, by decide, by decide +kernel⟩
theorem na_X0_worksFor : nArgs yX0_worksFor 1 := ⟨by decide, by decide, by decide +kernel⟩
theorem na_X8_sendRobotFor : nArgs yX8_sendRobotFor 1 := ⟨by decide, by decide, by decide +kernel⟩
theorem na_X8_nearestTray : nArgs yX8_nearestTray 2 := ⟨by decide, by decide, by decide +kernel⟩
theorem na_X0_nearestIdle : nArgs yX0_nearestIdle 1 := ⟨by decide, by decide, by decide +kernel⟩
theorem na_X5_fetch : nArgs yX5_fetch 2 := ⟨by decide, by decide, by decide +kernel⟩
theorem na_X0_askForCells : nArgs yX0_askForCells 1 := ⟨by decide, by decide, by decide +kernel⟩
theorem na_X0_wantedCell : nArgs yX0_wantedCell 1 := ⟨by decide, by decide, by decide +kernel⟩
theorem na_X5_goal : nArgs yX5_goal 0 := ⟨by decide, by decide, by decide +kernel⟩
theorem na_X5_isOnItsWay : nArgs yX5_isOnItsWay 0 := ⟨by decide, by decide, by decide +kernel⟩
theorem na_X1_nextCell : nArgs yX1_nextCell 3 := ⟨by decide, by decide, by decide +kernel⟩
theorem na_X1_neighbour : nArgs yX1_neighbour 2 := ⟨by decide, by decide, by decide +kernel⟩
theorem na_X1_isOpen : nArgs yX1_isOpen 1 := ⟨by decide, by decide, by decide +kernel⟩
theorem na_X5_askFor : nArgs yX5_askFor 2 := ⟨by decide, by decide, by decide +kernel⟩
theorem na_X0_settleRings : nArgs yX0_settleRings 0 := ⟨by decide, by decide, by decide +kernel⟩
theorem na_X0_gatherRing : nArgs yX0_gatherRing 1 := ⟨by decide, by decide, by decide +kernel⟩
theorem na_Jx4a65c_clear_da8c8 : nArgs yJx4a65c_clear_da8c8 0 := ⟨by decide, by decide, by decide +kernel⟩
theorem na_X0_turnRing : nArgs yX0_turnRing 0 := ⟨by decide, by decide, by decide +kernel⟩
theorem na_X0_moveRobot : nArgs yX0_moveRobot 2 := ⟨by decide, by decide, by decide +kernel⟩
theorem na_X5_moveTo : nArgs yX5_moveTo 1 := ⟨by decide, by decide, by decide +kernel⟩
theorem na_X0_breakRing : nArgs yX0_breakRing 2 := ⟨by decide, by decide, by decide +kernel⟩
theorem na_X5_isAbove : nArgs yX5_isAbove 1 := ⟨by decide, by decide, by decide +kernel⟩
theorem na_X0_canYieldTo : nArgs yX0_canYieldTo 2 := ⟨by decide, by decide, by decide +kernel⟩
theorem na_X5_yieldTo : nArgs yX5_yieldTo 1 := ⟨by decide, by decide, by decide +kernel⟩
theorem na_X0_stepAside : nArgs yX0_stepAside 0 := ⟨by decide, by decide, by decide +kernel⟩
theorem na_X0_isAskedFor : nArgs yX0_isAskedFor 1 := ⟨by decide, by decide, by decide +kernel⟩
theorem na_X0_cellAside : nArgs yX0_cellAside 1 := ⟨by decide, by decide, by decide +kernel⟩
theorem na_X0_moveOn : nArgs yX0_moveOn 0 := ⟨by decide, by decide, by decide +kernel⟩
theorem na_X0_lineUpAskers : nArgs yX0_lineUpAskers 0 := ⟨by decide, by decide, by decide +kernel⟩
theorem na_X0_placeInQueue : nArgs yX0_placeInQueue 1 := ⟨by decide, by decide, by decide +kernel⟩
theorem na_X5_goesBefore : nArgs yX5_goesBefore 1 := ⟨by decide, by decide, by decide +kernel⟩
theorem na_Jx4a65c_add_7a177 : nArgs yJx4a65c_add_7a177 2 := ⟨by decide, by decide, by decide +kernel⟩
theorem na_Jx4a65c_rangeCheckForAdd_d00df : nArgs yJx4a65c_rangeCheckForAdd_d00df 1 := ⟨by decide, by decide, by decide +kernel⟩
theorem na_Jx4a65c_outOfBoundsMsg_b52d3 : nArgs yJx4a65c_outOfBoundsMsg_b52d3 1 := ⟨by decide, by decide, by decide +kernel⟩
theorem na_J7_copyOf_9075b : nArgs yJ7_copyOf_9075b 2 := ⟨by decide, by decide, by decide +kernel⟩
theorem na_J3_checkFromToIndex_8c36e : nArgs yJ3_checkFromToIndex_8c36e 4 := ⟨by decide, by decide, by decide +kernel⟩
theorem na_J3_checkFromIndexSize_8c36e : nArgs yJ3_checkFromIndexSize_8c36e 4 := ⟨by decide, by decide, by decide +kernel⟩
theorem na_J7_copyOfRange_39247 : nArgs yJ7_copyOfRange_39247 3 := ⟨by decide, by decide, by decide +kernel⟩
theorem na_J7_copyOfRangeByte_39247 : nArgs yJ7_copyOfRangeByte_39247 3 := ⟨by decide, by decide, by decide +kernel⟩
theorem na_J7_checkLength_df160 : nArgs yJ7_checkLength_df160 2 := ⟨by decide, by decide, by decide +kernel⟩
theorem na_X0_arrive : nArgs yX0_arrive 0 := ⟨by decide, by decide, by decide +kernel⟩
theorem na_X5_reachGoal : nArgs yX5_reachGoal 0 := ⟨by decide, by decide, by decide +kernel⟩
theorem na_X8_stock : nArgs yX8_stock 1 := ⟨by decide, by decide, by decide +kernel⟩
theorem na_X8_stockByPicks : nArgs yX8_stockByPicks 1 := ⟨by decide, by decide, by decide +kernel⟩
theorem na_X8_pickedFrom : nArgs yX8_pickedFrom 1 := ⟨by decide, by decide, by decide +kernel⟩
theorem na_X8_findPick : nArgs yX8_findPick 1 := ⟨by decide, by decide, by decide +kernel⟩
theorem na_X8_pickedFor : nArgs yX8_pickedFor 1 := ⟨by decide, by decide, by decide +kernel⟩
theorem na_X8_pickedIn : nArgs yX8_pickedIn 1 := ⟨by decide, by decide, by decide +kernel⟩
set_option maxHeartbeats 4000000 in
set_option maxRecDepth 100000 in
theorem cJ_Jx4a65c_size_8abf5 (l : Launch) (G : gG) (q arr n : Nat) (md : Int32) : Met l yJx4a65c_size_8abf5 (wB yJx4a65c_size_8abf5 cJx4a65c_size_8abf5 1 (some .int)) (rmL 0 0 0) (va_Pc [.ref q] (fun S => LO G q arr n md S.heap ∧ gK G S)) (k2_QcV (.int (nI n))) 0 0 fN := by
  refine st_N (own := RJx4a65c) (by decide +kernel) rfl (Nat.le_of_ble_eq_true rfl) ?_
  intro p e s m below meth c ls args Q hQ hC hr hlk hnm hl hP
  obtain ⟨ho, hK⟩ := hP
  have hx := hC.1
  have hb := hC.2.1
  have hl : lv_has ls 1 [(0, .ref q)] := hl
  refine lv_aload_n hx hb dJx4a65c_size_8abf5_0 rfl (lv_at hl 0 rfl) ?_
  refine r1_get hC hK.1 ho lay_Jx4a65c rfl 2 (by decide) fl_Jx4a65c_48 (fun x hx => hx) (v := .int (nI n)) rfl dJx4a65c_size_8abf5_1 ?_
  subst hQ
  exact rt_i hx hb hr hlk rfl dJx4a65c_size_8abf5_4
set_option maxHeartbeats 4000000 in
set_option maxRecDepth 100000 in
theorem cJ_J3_checkIndex_8e157 (l : Launch) (i n : Nat) (hi : i < n) (hn : n < 2147483648) : Met l yJ3_checkIndex_8e157 (wB yJ3_checkIndex_8e157 cJ3_checkIndex_8e157 3 (some .int)) (rmL 0 0 0) (va_Pc [.int (nI i), .int (nI n), .null] (fun _ => True)) (k2_QcV (.int (nI i))) 0 0 fN := by
  refine st_N (own := RJ3) (by decide +kernel) rfl (Nat.le_of_ble_eq_true rfl) ?_
  intro p e s m below meth c ls args Q hQ hC hr hlk hnm hl hP
  have hx := hC.1
  have hb := hC.2.1
  have hl : lv_has ls 3 [(0, .int (nI i)), (1, .int (nI n)), (2, .null)] := hl
  refine lv_iload_n hx hb dJ3_checkIndex_8e157_0 rfl (lv_at hl 0 rfl) ?_
  refine lv_if_lt (tgt := 9) hx hb dJ3_checkIndex_8e157_1 (by decide) (fun c => absurd c (nI_pos (by omega))) (fun _ => ?_)
  refine lv_iload_n hx hb dJ3_checkIndex_8e157_4 rfl (lv_at hl 0 rfl) ?_
  refine lv_iload_n hx hb dJ3_checkIndex_8e157_5 rfl (lv_at hl 1 rfl) ?_
  refine ln_lt (tgt := 16) (a := i) (b := n) hx hb dJ3_checkIndex_8e157_6 (by decide) rfl rfl (by omega) (by omega) (fun _ => ?_) (fun c => absurd hi c)
  refine lv_iload_n hx hb dJ3_checkIndex_8e157_16 rfl (lv_at hl 0 rfl) ?_
  subst hQ
  exact rt_i hx hb hr hlk rfl dJ3_checkIndex_8e157_17
set_option maxHeartbeats 4000000 in
set_option maxRecDepth 100000 in
theorem cJ_J15_checkIndex_7cf53 (l : Launch) (i n : Nat) (hi : i < n) (hn : n < 2147483648) : Met l yJ15_checkIndex_7cf53 (wB yJ15_checkIndex_7cf53 cJ15_checkIndex_7cf53 2 (some .int)) (rmL 1 0 0) (va_Pc [.int (nI i), .int (nI n)] (fun _ => True)) (k2_QcV (.int (nI i))) 0 0 fN := by
  refine st_N (own := RJ15) (by decide +kernel) rfl (Nat.le_of_ble_eq_true rfl) ?_
  intro p e s m below meth c ls args Q hQ hC hr hlk hnm hl hP
  have hx := hC.1
  have hb := hC.2.1
  have hl : lv_has ls 2 [(0, .int (nI i)), (1, .int (nI n))] := hl
  refine lv_iload_n hx hb dJ15_checkIndex_7cf53_0 rfl (lv_at hl 0 rfl) ?_
  refine lv_iload_n hx hb dJ15_checkIndex_7cf53_1 rfl (lv_at hl 1 rfl) ?_
  refine lv_null hx hb dJ15_checkIndex_7cf53_2 ?_
  refine cl_p (run_S hC (cJ_J3_checkIndex_8e157 l i n hi hn) (As := [.int (nI i), .int (nI n), .null]) (rest := []) rfl rfl ml_J15_105 sm_J3_checkIndex_8e157 ini_J3 cd_J3_checkIndex_8e157 na_J3_checkIndex_8e157 tB_blind (fun _ _ _ => trivial) hl.1 (Nat.le_of_ble_eq_true rfl) ⟨Nat.le_of_ble_eq_true rfl, Nat.le_of_ble_eq_true rfl⟩ ⟨Nat.le_refl _, Nat.le_refl _⟩ rfl dJ15_checkIndex_7cf53_3) ?_
  subst hQ
  exact rt_i hx hb hr hlk rfl dJ15_checkIndex_7cf53_6
set_option maxHeartbeats 4000000 in
set_option maxRecDepth 100000 in
theorem cJ_Jx4a65c_elementData_915e3 (l : Launch) (G : gG) (q arr cap n : Nat) (f : Nat → Nat) (md : Int32) (i : Nat) (hi : i < n) (hnc : n ≤ cap) (hcap : cap ≤ 40000) : Met l yJx4a65c_elementData_915e3 (wB yJx4a65c_elementData_915e3 cJx4a65c_elementData_915e3 2 (some (.object "java/lang/Object"))) (rmL 0 0 0) (va_Pc [.ref q, .int (nI i)] (fun S => LO G q arr n md S.heap ∧ LA G arr cap n f S.heap ∧ gK G S)) (k2_QcV (.ref (f i))) 0 0 fN := by
  refine st_N (own := RJx4a65c) (by decide +kernel) rfl (Nat.le_of_ble_eq_true rfl) ?_
  intro p e s m below meth c ls args Q hQ hC hr hlk hnm hl hP
  obtain ⟨ho, ha, hK⟩ := hP
  have hx := hC.1
  have hb := hC.2.1
  have hl : lv_has ls 2 [(0, .ref q), (1, .int (nI i))] := hl
  refine lv_aload_n hx hb dJx4a65c_elementData_915e3_0 rfl (lv_at hl 0 rfl) ?_
  refine r1_get hC hK.1 ho lay_Jx4a65c rfl 1 (by decide) fl_Jx4a65c_9 (fun x hx => hx) (v := .ref arr) rfl dJx4a65c_elementData_915e3_1 ?_
  refine lv_iload_n hx hb dJx4a65c_elementData_915e3_4 rfl (lv_at hl 1 rfl) ?_
  refine r2_qld hC hK ha (i := i) (by omega) (by omega) (v := .ref (f i)) (by rw [lf_in hi]; rfl) dJx4a65c_elementData_915e3_5 ?_
  subst hQ
  exact rt_a (r := some (f i)) (r' := some (f i)) hx hb hr (Or.inl ⟨_, rfl⟩) hlk rfl rfl dJx4a65c_elementData_915e3_6
set_option maxHeartbeats 4000000 in
set_option maxRecDepth 100000 in
theorem cJ_Jx4a65c_get_915e3 (l : Launch) (G : gG) (q arr cap n : Nat) (f : Nat → Nat) (md : Int32) (i : Nat) (hi : i < n) (hnc : n ≤ cap) (hcap : cap ≤ 40000) : Met l yJx4a65c_get_915e3 (wB yJx4a65c_get_915e3 cJx4a65c_get_915e3 2 (some (.object "java/lang/Object"))) (rmL 2 0 0) (va_Pc [.ref q, .int (nI i)] (fun S => LO G q arr n md S.heap ∧ LA G arr cap n f S.heap ∧ gK G S)) (k2_QcV (.ref (f i))) 0 0 fN := by
  refine st_N (own := RJx4a65c) (by decide +kernel) rfl (Nat.le_of_ble_eq_true rfl) ?_
  intro p e s m below meth c ls args Q hQ hC hr hlk hnm hl hP
  obtain ⟨ho, ha, hK⟩ := hP
  have hx := hC.1
  have hb := hC.2.1
  have hl : lv_has ls 2 [(0, .ref q), (1, .int (nI i))] := hl
  refine lv_iload_n hx hb dJx4a65c_get_915e3_0 rfl (lv_at hl 1 rfl) ?_
  refine lv_aload_n hx hb dJx4a65c_get_915e3_1 rfl (lv_at hl 0 rfl) ?_
  refine r1_get hC hK.1 ho lay_Jx4a65c rfl 2 (by decide) fl_Jx4a65c_48 (fun x hx => hx) (v := .int (nI n)) rfl dJx4a65c_get_915e3_2 ?_
  refine cl_p (run_S hC (cJ_J15_checkIndex_7cf53 l i n hi (by omega)) (As := [.int (nI i), .int (nI n)]) (rest := []) rfl rfl ml_Jx4a65c_118 sm_J15_checkIndex_7cf53 ini_J15 cd_J15_checkIndex_7cf53 na_J15_checkIndex_7cf53 tB_blind (fun _ _ _ => trivial) hl.1 (Nat.le_of_ble_eq_true rfl) ⟨Nat.le_of_ble_eq_true rfl, Nat.le_of_ble_eq_true rfl⟩ ⟨Nat.le_refl _, Nat.le_refl _⟩ rfl dJx4a65c_get_915e3_5) ?_
  refine lv_pop hx hb dJx4a65c_get_915e3_8 rfl ?_
  refine lv_aload_n hx hb dJx4a65c_get_915e3_9 rfl (lv_at hl 0 rfl) ?_
  refine lv_iload_n hx hb dJx4a65c_get_915e3_10 rfl (lv_at hl 1 rfl) ?_
  refine cl_p (run_V hC (cJ_Jx4a65c_elementData_915e3 l G q arr cap n f md i hi hnc hcap) (As := [.int (nI i)]) (rest := []) rfl rfl ml_Jx4a65c_123 im_Jx4a65c_elementData_915e3 se_Jx4a65c_elementData_915e3 ini_Jx4a65c cd_Jx4a65c_elementData_915e3 ⟨rfl, na_Jx4a65c_elementData_915e3⟩ oaB_blind (ls_recv hK ho rfl) (fun U hU hW => ⟨by rw [hU]; exact ho, by rw [hU]; exact ha, hK.warm hW⟩) hl.1 (Nat.le_of_ble_eq_true rfl) ⟨Nat.le_of_ble_eq_true rfl, Nat.le_of_ble_eq_true rfl⟩ ⟨Nat.le_refl _, Nat.le_refl _⟩ rfl dJx4a65c_get_915e3_11) ?_
  subst hQ
  exact rt_a (r := some (f i)) (r' := some (f i)) hx hb hr (Or.inl ⟨_, rfl⟩) hlk rfl rfl dJx4a65c_get_915e3_14
