/-! CLAIMS -/
section LRC
variable {p : Program} {l : Launch} {e : Env} {R : Room} {s : State} {m : MethodId} {args : Array Value} {below : List Frame} {meth : Method} {c : Code} {H : Heap} {locs : List Loc} {cells slots : Nat} {Q : State → Prop}
variable {cc : ByteArray} {pc nL index : Nat} {ls : Array Slot} {rest : List Value} {own : String}
variable {G : gG} {d0 mi : Nat} {Rf : Nat → Prop} {ja : Nat → Nat → Nat} {M : MS} {E : ES}
theorem jr_addL (hC : CallFix p m c cc nL s args BIG own) (hX : gX G d0 mi (jA Rf) s) (hRf : ∀ q, Rf q → q < s.heap.size) (hW : WJ G d0 Rf ja M E H) (hS : va_S (jA Rf) s.heap H locs) {i x : Nat} (hi : i < nS M) (hx : VL M x = true) (hn : eN E (17 + i) < 30) (w1 : Cond.methodLink own index yJx4a65c_add_9ea2d ∈ BIG) (hsz : ls.size = nL) (hWr : (rest.map fun v => v.category).sum ≤ 8) (hR : 19 ≤ R.frames ∧ 561 ≤ R.locals) (hf : cells + 1 ≤ R.cells ∧ slots + 67 ≤ R.slots) (hdg : decode cc pc = .ok (.invokevirtual index, 3))
    (kk : ∀ (r : Int32) (H1 : Heap) (locs1 : List Loc), WJ G d0 Rf ja M (chE E (17 + i) (eN E (17 + i) + 1) (fup (eL E (17 + i)) (eN E (17 + i)) x) (capN (eC E (17 + i)) (eN E (17 + i)))) H1 → va_S (jA Rf) s.heap H1 locs1 → W p l e R s m args below meth c H1 locs1 (cells + 1) (slots + 67) Q (F0 m (pc + 3) ls (.int r :: rest))) : W p l e R s m args below meth c H locs cells slots Q (F0 m pc ls (.ref (ja 2 x) :: .ref (ja 10 (17 + i)) :: rest)) := by
  have hL : jLV M (17 + i) := Or.inr (Or.inr ⟨by omega, by omega⟩)
  have hcap := hW.cap hL
  rw [jn_17] at hcap
  have hc45 : eC E (17 + i) ≤ 45 := by have k9 := hcap.2; rw [if_neg (by omega)] at k9; exact k9
  have h1 := addC_le (cp := eC E (17 + i)) (n := eN E (17 + i))
  have h2 := addS_le (n := eN E (17 + i)) hc45 (by omega)
  refine jw_add hC hX hRf hW.1 (fun k q h => jV_lt h) hS hL (hW.elv hL) ⟨2, x, by unfold jo; omega, hx, rfl⟩ (by rw [jn_17]; have := hcap.le; exact hcap.1.elim (fun q => Or.inl q) (fun q => Or.inr ⟨q.1, q.2, this⟩)) w1 hsz hWr hR ⟨by rw [jn_17]; omega, by rw [jn_17]; omega⟩ hdg (fun r H1 locs1 w hS1 _ => W.widen (k := cells + 1) (n := slots + 67) (by rw [jn_17]; omega) (by rw [jn_17]; omega) (kk r H1 locs1 ?_ hS1))
  rw [jn_17] at w
  refine WJ.lch (g' := fun j => fup (jc ja E (17 + i)) (eN E (17 + i)) (ja 2 x) j) (Or.inr (Or.inr (by omega))) hL hW w (fun j hj => ?_) (fun j hj => ?_) (hcap.add (fun q => by omega) (fun _ => hn))
  · rw [jk_17]
    unfold fup
    split
    · rfl
    · exact jc_17 i j
  · rw [jk_17]
    unfold fup
    split
    · exact hx
    · have := hW.el hL (j := j) (by rw [jn_17]; omega)
      rw [jk_17, je_17] at this
      exact this
theorem jr_remL (hC : CallFix p m c cc nL s args BIG own) (hX : gX G d0 mi (jA Rf) s) (hRf : ∀ q, Rf q → q < s.heap.size) (hW : WJ G d0 Rf ja M E H) (hS : va_S (jA Rf) s.heap H locs) {i j : Nat} (hi : i < nS M) (hj : j < eN E (17 + i)) (w1 : Cond.methodLink own index yJx4a65c_remove_915e3 ∈ BIG) (hsz : ls.size = nL) (hWr : (rest.map fun v => v.category).sum ≤ 8) (hR : 15 ≤ R.frames ∧ 403 ≤ R.locals ∧ cells ≤ R.cells ∧ slots ≤ R.slots) (hdg : decode cc pc = .ok (.invokevirtual index, 3))
    (kk : ∀ (H1 : Heap) (locs1 : List Loc), WJ G d0 Rf ja M (chE E (17 + i) (eN E (17 + i) - 1) (frm (eL E (17 + i)) j) (eC E (17 + i))) H1 → va_S (jA Rf) s.heap H1 locs1 → W p l e R s m args below meth c H1 locs1 cells slots Q (F0 m (pc + 3) ls (.ref (jc ja E (17 + i) j) :: rest))) : W p l e R s m args below meth c H locs cells slots Q (F0 m pc ls (.int (nI j) :: .ref (ja 10 (17 + i)) :: rest)) := by
  have hL : jLV M (17 + i) := Or.inr (Or.inr ⟨by omega, by omega⟩)
  have hcap := hW.cap hL
  rw [jn_17] at hcap
  refine jw_rem hC hX hRf hW.1 (fun k q h => jV_lt h) hS hL (by rw [jn_17]; exact hj) (hW.elv hL) w1 hsz hWr hR hdg (fun H1 locs1 w hS1 _ => kk H1 locs1 ?_ hS1)
  rw [jn_17] at w
  refine WJ.lch (g' := fun y => frm (jc ja E (17 + i)) j y) (Or.inr (Or.inr (by omega))) hL hW (w.cg (fun k q h => ⟨h, rfl⟩) (fun i' h => ⟨h, rfl, ?_, fun j _ => rfl⟩)) (fun y hy => ?_) (fun y hy => ?_) (hcap.less (by omega) (by omega))
  · split
    · rename_i q; rw [q]
    · rfl
  · rw [jk_17]
    unfold frm
    split
    · exact jc_17 i _
    · exact jc_17 i _
  · rw [jk_17]
    unfold frm
    split
    · have := hW.el hL (j := y) (by rw [jn_17]; omega)
      rw [jk_17, je_17] at this
      exact this
    · have := hW.el hL (j := y + 1) (by rw [jn_17]; omega)
      rw [jk_17, je_17] at this
      exact this
end LRC
/-- a claim is forgotten -/
def FG (E : ES) (i k : Nat) (E2 : ES) : Prop := ∃ j, j < eN E (17 + i) ∧ eL E (17 + i) j = k ∧ E2 = chE E (17 + i) (eN E (17 + i) - 1) (frm (eL E (17 + i)) j) (eC E (17 + i))
def gvC (M : MS) (k : Nat) : MS := match wlA M k with | none => M | some r => lvM M r
theorem lv_row {M : MS} {r j : Nat} (h : rob j = false) : lvM M r j = M j := by
  have e : ∀ q, rob q = true → j ≠ q := fun q hq a => by rw [a, hq] at h; cases h
  unfold lvM
  split
  · unfold bcM
    rw [mset_n _ _ _ (e 23 rfl), mset_n _ _ _ (e 24 rfl), mset_n _ _ _ (e 20 rfl), mset_n _ _ _ (e 21 rfl), mset_n _ _ _ (e 22 rfl)]
  · unfold bcM
    rw [mset_n _ _ _ (e 23 rfl), mset_n _ _ _ (e 24 rfl), mset_n _ _ _ (e 20 rfl), mset_n _ _ _ (e 22 rfl)]
set_option maxHeartbeats 4000000 in
set_option maxRecDepth 100000 in
theorem cJ_X6_forget (l : Launch) (G : gG) (d0 mi : Nat) (Rf : Nat → Prop) (ja : Nat → Nat → Nat) (M : MS) (E : ES) (s_ : Nat) (k : Nat) (h_s_ : s_ < nS M) (h_k : VL M k = true) (hin : ∃ j, j < eN E (17 + s_) ∧ eL E (17 + s_) j = k) (hn45 : eN E (17 + s_) ≤ 30) : Met l yX6_forget (wB yX6_forget cX6_forget 3 none) (rmL 4 0 0) (va_Pc [.ref (ja 6 s_), .ref (ja 2 k)] (jB G d0 mi Rf ja M E)) (va_Qv (S := ES) (fun E2 => FG E s_ k E2) (fun E2 z9 => WJ G d0 Rf ja (M) (E2) z9.heap) (jA Rf)) 0 0 (jA Rf) := by
  refine st_N (own := RX6) (by decide +kernel) rfl (Nat.le_of_ble_eq_true rfl) ?_
  intro p e s m below meth c ls args Q hQ hC hr hlk hnm hl hP
  obtain ⟨hW, hX, hRf⟩ := hP
  have hK := hX.1
  have hx := hC.1
  have hb := hC.2.1
  have hl : lv_has ls 3 [(0, .ref (ja 6 s_)), (1, .ref (ja 2 k))] := hl
  obtain ⟨H, locs, hHe, hLe⟩ : ∃ (H : Heap) (locs : List Loc), H = s.heap ∧ locs = [] := ⟨_, _, rfl, rfl⟩
  rw [← hHe] at hW
  have hS : va_S (jA Rf) s.heap H locs := by rw [hHe, hLe]; exact va_S.rf
  suffices hgo : W p l e (rmL 4 0 0) s m args below meth c H locs 0 0 Q (F0 m 0 ls []) by
    rw [hHe, hLe] at hgo
    exact hgo
  clear hHe hLe
  refine lv_iconst (v := 0) hx hb dX6_forget_0 (by decide) ?_
  refine lv_istore_n (lv' := [(2, .int 0), (0, .ref (ja 6 s_)), (1, .ref (ja 2 k))]) hx hb dX6_forget_1 rfl hl (by decide) rfl (fun ls hl => ?_)
  have loop1 : ∀ (n_ : Nat) (i : Nat) (hi : i ≤ eN E (17 + s_)) (hno : ∀ j, j < i → ¬ eL E (17 + s_) j = k) (ls : Array Slot), eN E (17 + s_) - i < n_ → lv_has ls 3 [(2, .int (nI i)), (0, .ref (ja 6 s_)), (1, .ref (ja 2 k))] → W p l e (rmL 4 0 0) s m args below meth c H locs 0 0 Q (F0 m 2 ls []) := by
    intro n_
    induction n_ with
    | zero => intro i hi hno ls hm hl; omega
    | succ n_ ih1 =>
      intro i hi hno ls hm hl
      refine lv_iload_n hx hb dX6_forget_2 rfl (lv_at hl 0 rfl) ?_
      refine lv_aload_n hx hb dX6_forget_3 rfl (lv_at hl 1 rfl) ?_
      refine r1_get hC hK.1 (hW.ob (show jV M 6 s_ from h_s_)) lay_X6 rfl 2 (by decide) fl_X6_10 (fun x hx => hx) (v := .ref (ja 10 (17 + s_))) rfl dX6_forget_4 ?_
      refine jw_size hC hK hW.1 (i := (17 + s_)) (by unfold jLV; omega) ml_X6_23 hl.1 (Nat.le_of_ble_eq_true rfl) ⟨Nat.le_of_ble_eq_true rfl, Nat.le_of_ble_eq_true rfl, Nat.le_refl _, Nat.le_refl _⟩ dX6_forget_7 ?_
      refine top_i (y := nI (eN E (17 + s_))) (congrArg nI (jn_17 _)) ?_
      refine ln_ge (tgt := 41) (a := i) (b := (eN E (17 + s_))) hx hb dX6_forget_10 (by decide) rfl rfl (by omega) (by omega) (fun c_2t => ?_) (fun c_2f => ?_)
      · subst hQ
        exact absurd hin (fun ⟨j, hj, ej⟩ => hno j (by omega) ej)
      · refine lv_aload_n hx hb dX6_forget_13 rfl (lv_at hl 1 rfl) ?_
        refine r1_get hC hK.1 (hW.ob (show jV M 6 s_ from h_s_)) lay_X6 rfl 2 (by decide) fl_X6_10 (fun x hx => hx) (v := .ref (ja 10 (17 + s_))) rfl dX6_forget_14 ?_
        refine lv_iload_n hx hb dX6_forget_17 rfl (lv_at hl 0 rfl) ?_
        refine jw_get hC hK hW.1 (i := (17 + s_)) (j := i) (by unfold jLV; omega) (show i < jn M E (17 + s_) from (by first | omega | (rw [jn_7 (by have := hW.cnt.O10; omega)]; omega) | (rw [jn_17]; omega))) ml_X6_27 hl.1 (Nat.le_of_ble_eq_true rfl) ⟨Nat.le_of_ble_eq_true rfl, Nat.le_of_ble_eq_true rfl, Nat.le_refl _, Nat.le_refl _⟩ dX6_forget_18 ?_
        refine top_r (y := (ja 2 (eL E (17 + s_) i))) (jc_17 _ _) ?_
        have hv9 : VL M (eL E (17 + s_) i) = true := by have k9 := hW.el (i := 17 + s_) (j := i) (Or.inr (Or.inr ⟨by omega, by have k0 := h_s_; omega⟩)) (by rw [jn_17]; omega); rw [jk_17, je_17] at k9; exact k9
        refine lv_aload_n hx hb dX6_forget_21 rfl (lv_at hl 2 rfl) ?_
        refine lv_acmp_ne (rx := some (ja 2 (eL E (17 + s_) i))) (ry := some (ja 2 k)) (tgt := 35) hx hb dX6_forget_22 (by decide) (fun c_3t => ?_) (fun c_3f => ?_)
        · have c_3t : ¬ (eL E (17 + s_) i) = k := fun q => c_3t (by rw [q])
          refine lv_iinc (v := nI (i + 1)) (lv' := [(2, .int (nI (i + 1))), (0, .ref (ja 6 s_)), (1, .ref (ja 2 k))]) hx hb dX6_forget_35 hl (k := 0) rfl (nI_inc _) (by decide) rfl (fun ls hl => ?_)
          refine lv_goto (tgt := 2) hx hb dX6_forget_38 (by decide) ?_
          exact ih1 (i + 1) (by omega) (fun j hj => (Nat.lt_succ_iff_lt_or_eq.mp hj).elim (fun q => hno j q) (fun q => by rw [q]; exact c_3t)) ls (by omega) (lv_sub hl [0, 1, 2] rfl)
        · have c_3f : (eL E (17 + s_) i) = k := (hW.inj (show jV M 2 (eL E (17 + s_) i) from hv9) (show jV M 2 k from h_k)).mp (Option.some.inj c_3f)
          refine lv_aload_n hx hb dX6_forget_25 rfl (lv_at hl 1 rfl) ?_
          refine r1_get hC hK.1 (hW.ob (show jV M 6 s_ from h_s_)) lay_X6 rfl 2 (by decide) fl_X6_10 (fun x hx => hx) (v := .ref (ja 10 (17 + s_))) rfl dX6_forget_26 ?_
          refine lv_iload_n hx hb dX6_forget_29 rfl (lv_at hl 0 rfl) ?_
          refine jr_remL hC hX hRf hW hS h_s_ (j := i) (by omega) ml_X6_31 hl.1 (Nat.le_of_ble_eq_true rfl) ⟨Nat.le_of_ble_eq_true rfl, Nat.le_of_ble_eq_true rfl, by show 0 ≤ 0; omega, by show 0 ≤ 0; omega⟩ dX6_forget_30 (fun H locs hW hS => ?_)
          refine lv_pop hx hb dX6_forget_33 rfl ?_
          subst hQ
          exact rt_qv (chE E (17 + s_) (eN E (17 + s_) - 1) (frm (eL E (17 + s_)) i) (eC E (17 + s_))) hx hb hr hlk hS ⟨i, by omega, c_3f, rfl⟩ (fun t ht _ => by show WJ G d0 Rf ja _ _ t.heap; rw [ht]; exact hW) (by show 0 ≤ 0; omega) (by show 0 ≤ 0; omega) dX6_forget_34
  exact loop1 ((eN E (17 + s_) - 0) + 1) 0 (Nat.zero_le _) (fun j hj => absurd hj (Nat.not_lt_zero j)) ls (by omega) (lv_sub hl [0, 1, 2] rfl)
set_option maxHeartbeats 4000000 in
set_option maxRecDepth 100000 in
theorem cJ_X8_claim (l : Launch) (G : gG) (d0 mi : Nat) (Rf : Nat → Prop) (ja : Nat → Nat → Nat) (M : MS) (E : ES) (s_ : Nat) (o : Nat) (k : Nat) (hs_ : s_ < nS M) (h1 : o < nO M) (h2 : k < nL M o) (e14 : M 14 (3 * o + k) = -1) (hn30 : eN E (17 + s_) < 30) : Met l yX8_claim (wB yX8_claim cX8_claim 6 (some .int)) (rmL 9 1 67) (va_Pc [.ref (ja 8 0), .int (nI s_), .int (nI o), .int (nI k)] (jB G d0 mi Rf ja M E)) (va_Qi (S := Unit) (fun v9 _ => v9 = nI (eN E (17 + s_) + 1) ∧ True) (fun _ z9 => WJ G d0 Rf ja (mset M 14 (3 * o + k) (nI s_)) ((chE E (17 + s_) (eN E (17 + s_) + 1) (fup (eL E (17 + s_)) (eN E (17 + s_)) (3 * o + k)) (capN (eC E (17 + s_)) (eN E (17 + s_))))) z9.heap) (jA Rf)) 1 67 (jA Rf) := by
  refine st_N (own := RX8) (by decide +kernel) rfl (Nat.le_of_ble_eq_true rfl) ?_
  intro p e s m below meth c ls args Q hQ hC hr hlk hnm hl hP
  obtain ⟨hW, hX, hRf⟩ := hP
  have hK := hX.1
  have hx := hC.1
  have hb := hC.2.1
  have hl : lv_has ls 6 [(0, .ref (ja 8 0)), (1, .int (nI s_)), (2, .int (nI o)), (3, .int (nI k))] := hl
  obtain ⟨H, locs, hHe, hLe⟩ : ∃ (H : Heap) (locs : List Loc), H = s.heap ∧ locs = [] := ⟨_, _, rfl, rfl⟩
  rw [← hHe] at hW
  have hS : va_S (jA Rf) s.heap H locs := by rw [hHe, hLe]; exact va_S.rf
  suffices hgo : W p l e (rmL 9 1 67) s m args below meth c H locs 0 0 Q (F0 m 0 ls []) by
    rw [hHe, hLe] at hgo
    exact hgo
  clear hHe hLe
  have hO := hW.cnt.O10
  have hL := hW.cnt.L3 (o := o) (by omega)
  have hv2 : VL M (3 * o + k) = true := VL_ok h1 h2 hL
  have hk30 := VL_lt hW.cnt hv2
  have h3 := hW.cnt.S3
  refine lv_aload_n hx hb dX8_claim_0 rfl (lv_at hl 0 rfl) ?_
  refine lv_iload_n hx hb dX8_claim_1 rfl (lv_at hl 1 rfl) ?_
  refine cl_p (run_V hC (cJ_X8_findStation l G d0 mi Rf ja M E s_ (by omega)) (As := [.int (nI s_)]) (rest := []) rfl rfl ml_X8_150 im_X8_findStation se_X8_findStation ini_X8 cd_X8_findStation ⟨rfl, na_X8_findStation⟩ jB_blind (hW.recv hK (show jV M 8 0 from rfl) rfl) (jB_at hX hRf hW hS) hl.1 (Nat.le_of_ble_eq_true rfl) ⟨Nat.le_of_ble_eq_true rfl, Nat.le_of_ble_eq_true rfl⟩ ⟨by show 0 + 0 ≤ 1; omega, by show 0 + 0 ≤ 67; omega⟩ rfl dX8_claim_2) ?_
  refine lv_astore (lv' := [(4, .ref (ja 6 s_)), (0, .ref (ja 8 0)), (1, .int (nI s_)), (2, .int (nI o)), (3, .int (nI k))]) hx hb dX8_claim_5 hl (by decide) rfl (fun ls hl => ?_)
  refine lv_aload_n hx hb dX8_claim_7 rfl (lv_at hl 1 rfl) ?_
  refine lv_iload_n hx hb dX8_claim_8 rfl (lv_at hl 3 rfl) ?_
  refine lv_iload_n hx hb dX8_claim_9 rfl (lv_at hl 4 rfl) ?_
  refine cl_p (run_V hC (cJ_X8_findLine l G d0 mi Rf ja M E o k (by omega) (by omega)) (As := [.int (nI o), .int (nI k)]) (rest := []) rfl rfl ml_X8_154 im_X8_findLine se_X8_findLine ini_X8 cd_X8_findLine ⟨rfl, na_X8_findLine⟩ jB_blind (hW.recv hK (show jV M 8 0 from rfl) rfl) (jB_at hX hRf hW hS) hl.1 (Nat.le_of_ble_eq_true rfl) ⟨Nat.le_of_ble_eq_true rfl, Nat.le_of_ble_eq_true rfl⟩ ⟨by show 0 + 0 ≤ 1; omega, by show 0 + 0 ≤ 67; omega⟩ rfl dX8_claim_10) ?_
  refine lv_astore (lv' := [(5, .ref (ja 2 (3 * o + k))), (4, .ref (ja 6 s_)), (0, .ref (ja 8 0)), (1, .int (nI s_)), (2, .int (nI o)), (3, .int (nI k))]) hx hb dX8_claim_13 hl (by decide) rfl (fun ls hl => ?_)
  refine lv_aload hx hb dX8_claim_15 (lv_at hl 0 rfl) ?_
  refine r1_get hC hK.1 (hW.ob (show jV M 2 (3 * o + k) from hv2)) lay_X2 rfl 3 (by decide) fl_X8_158 (fun x hx => hx) (v := .null) (show some (va_rf (jp ja 6 (M 14 (3 * o + k)))) = _ by rw [show M 14 (3 * o + k) = -1 from e14, jp_n]; rfl) dX8_claim_17 ?_
  refine lv_ifnullN (tgt := 33) hx hb dX8_claim_20 (by decide) ?_
  refine lv_aload hx hb dX8_claim_33 (lv_at hl 0 rfl) ?_
  refine lv_aload hx hb dX8_claim_35 (lv_at hl 1 rfl) ?_
  refine jp_r14 hC hK hW hS (show VL M (3 * o + k) = true from hv2) (show s_ < nS M from hs_) (by omega) fl_X8_158 dX8_claim_37 (fun H locs hW hS => ?_)
  refine lv_aload hx hb dX8_claim_40 (lv_at hl 1 rfl) ?_
  refine r1_get hC hK.1 (hW.ob (show jV (mset M 14 (3 * o + k) (nI s_)) 6 s_ from hs_)) lay_X6 rfl 2 (by decide) fl_X8_164 (fun x hx => hx) (v := .ref (ja 10 (17 + s_))) rfl dX8_claim_42 ?_
  refine lv_aload hx hb dX8_claim_45 (lv_at hl 0 rfl) ?_
  refine jr_addL hC hX hRf hW hS (show s_ < nS (mset M 14 (3 * o + k) (nI s_)) from hs_) (show VL (mset M 14 (3 * o + k) (nI s_)) (3 * o + k) = true from hv2) hn30 ml_X8_92 hl.1 (Nat.le_of_ble_eq_true rfl) ⟨Nat.le_of_ble_eq_true rfl, Nat.le_of_ble_eq_true rfl⟩ ⟨by show 0 + 1 ≤ 1; omega, by show 0 + 67 ≤ 67; omega⟩ dX8_claim_47 (fun rz_ H locs hW hS => ?_)
  refine lv_pop hx hb dX8_claim_50 rfl ?_
  refine lv_aload hx hb dX8_claim_51 (lv_at hl 1 rfl) ?_
  refine r1_get hC hK.1 (hW.ob (show jV (mset M 14 (3 * o + k) (nI s_)) 6 s_ from hs_)) lay_X6 rfl 2 (by decide) fl_X8_164 (fun x hx => hx) (v := .ref (ja 10 (17 + s_))) rfl dX8_claim_53 ?_
  refine jw_size hC hK hW.1 (i := (17 + s_)) (show jLV M (17 + s_) from by unfold jLV; omega) ml_X8_81 hl.1 (Nat.le_of_ble_eq_true rfl) ⟨Nat.le_of_ble_eq_true rfl, Nat.le_of_ble_eq_true rfl, (by show 0 + 1 ≤ 1; omega), (by show 0 + 67 ≤ 67; omega)⟩ dX8_claim_56 ?_
  refine top_i (y := nI (eN E (17 + s_) + 1)) (congrArg nI ((jn_17 _).trans (if_pos rfl))) ?_
  subst hQ
  exact rt_qi () hx hb hr hlk hS ⟨rfl, trivial⟩ (fun t ht _ => by show WJ G d0 Rf ja _ _ t.heap; rw [ht]; exact hW) (by show 0 + 1 ≤ 1; omega) (by show 0 + 67 ≤ 67; omega) dX8_claim_59
set_option maxHeartbeats 4000000 in
set_option maxRecDepth 100000 in
theorem cJ_X8_claimX1 (l : Launch) (G : gG) (d0 mi : Nat) (Rf : Nat → Prop) (ja : Nat → Nat → Nat) (M : MS) (E : ES) (x : Int32) (o : Int32) (k : Int32) (hno : inB x (nI (nS M)) = false) (hl9 : l.stackTraces = false) : vx_Met l yX8_claim (wB yX8_claim cX8_claim 6 (some .int)) (rmL 9 1 6) (va_Pc [.ref (ja 8 0), .int x, .int o, .int k] (jT G d0 mi Rf ja M E)) xQ (xN xIOE) 1 6 (jA Rf) := by
  refine st_X (own := RX8) (by decide +kernel) rfl (Nat.le_of_ble_eq_true rfl) ?_
  intro p e s m below meth c ls args Q hQ hC hr hlk hex hl hP
  obtain ⟨⟨hW, hX, hRf⟩, hT9⟩ := hP
  have hK := hX.1
  have hx := hC.1
  have hb := hC.2.1
  have hl : lv_has ls 6 [(0, .ref (ja 8 0)), (1, .int x), (2, .int o), (3, .int k)] := hl
  have hS : va_S (jA Rf) s.heap s.heap [] := va_S.rf
  refine lv_aload_n hx hb dX8_claim_0 rfl (lv_at hl 0 rfl) ?_
  refine lv_iload_n hx hb dX8_claim_1 rfl (lv_at hl 1 rfl) ?_
  exact jx_call (run_VX hC (cJ_X8_findStationX l G d0 mi Rf ja M E x (by assumption) hl9) (As := [.int x]) (rest := []) rfl rfl ml_X8_150 im_X8_findStation se_X8_findStation ini_X8 cd_X8_findStation ⟨rfl, na_X8_findStation⟩ jT_blind (hW.recv hK (show jV M 8 0 from rfl) rfl) (jT_at hX hT9 hRf hW hS) hl.1 (Nat.le_of_ble_eq_true rfl) ⟨Nat.le_of_ble_eq_true rfl, Nat.le_of_ble_eq_true rfl⟩ ⟨Nat.le_refl _, Nat.le_refl _⟩ rfl dX8_claim_2) hQ hex hlk
set_option maxHeartbeats 4000000 in
set_option maxRecDepth 100000 in
theorem cJ_X8_claimX2 (l : Launch) (G : gG) (d0 mi : Nat) (Rf : Nat → Prop) (ja : Nat → Nat → Nat) (M : MS) (E : ES) (s_ : Nat) (o : Int32) (k : Int32) (hs_ : s_ < nS M) (hno : lnB M o k = false) (hl9 : l.stackTraces = false) : vx_Met l yX8_claim (wB yX8_claim cX8_claim 6 (some .int)) (rmL 9 1 6) (va_Pc [.ref (ja 8 0), .int (nI s_), .int o, .int k] (jT G d0 mi Rf ja M E)) xQ (xN xIOE) 1 6 (jA Rf) := by
  refine st_X (own := RX8) (by decide +kernel) rfl (Nat.le_of_ble_eq_true rfl) ?_
  intro p e s m below meth c ls args Q hQ hC hr hlk hex hl hP
  obtain ⟨⟨hW, hX, hRf⟩, hT9⟩ := hP
  have hK := hX.1
  have hx := hC.1
  have hb := hC.2.1
  have hl : lv_has ls 6 [(0, .ref (ja 8 0)), (1, .int (nI s_)), (2, .int o), (3, .int k)] := hl
  have hS : va_S (jA Rf) s.heap s.heap [] := va_S.rf
  refine lv_aload_n hx hb dX8_claim_0 rfl (lv_at hl 0 rfl) ?_
  refine lv_iload_n hx hb dX8_claim_1 rfl (lv_at hl 1 rfl) ?_
  refine cl_p (run_V hC (cJ_X8_findStation l G d0 mi Rf ja M E s_ (by omega)) (As := [.int (nI s_)]) (rest := []) rfl rfl ml_X8_150 im_X8_findStation se_X8_findStation ini_X8 cd_X8_findStation ⟨rfl, na_X8_findStation⟩ jB_blind (hW.recv hK (show jV M 8 0 from rfl) rfl) (jB_at hX hRf hW hS) hl.1 (Nat.le_of_ble_eq_true rfl) ⟨Nat.le_of_ble_eq_true rfl, Nat.le_of_ble_eq_true rfl⟩ ⟨by show 0 + 0 ≤ 1; omega, by show 0 + 0 ≤ 6; omega⟩ rfl dX8_claim_2) ?_
  refine lv_astore (lv' := [(4, .ref (ja 6 s_)), (0, .ref (ja 8 0)), (1, .int (nI s_)), (2, .int o), (3, .int k)]) hx hb dX8_claim_5 hl (by decide) rfl (fun ls hl => ?_)
  refine lv_aload_n hx hb dX8_claim_7 rfl (lv_at hl 1 rfl) ?_
  refine lv_iload_n hx hb dX8_claim_8 rfl (lv_at hl 3 rfl) ?_
  refine lv_iload_n hx hb dX8_claim_9 rfl (lv_at hl 4 rfl) ?_
  exact jx_call (run_VX hC (cJ_X8_findLineX l G d0 mi Rf ja M E o k (by assumption) hl9) (As := [.int o, .int k]) (rest := []) rfl rfl ml_X8_154 im_X8_findLine se_X8_findLine ini_X8 cd_X8_findLine ⟨rfl, na_X8_findLine⟩ jT_blind (hW.recv hK (show jV M 8 0 from rfl) rfl) (jT_at hX hT9 hRf hW hS) hl.1 (Nat.le_of_ble_eq_true rfl) ⟨Nat.le_of_ble_eq_true rfl, Nat.le_of_ble_eq_true rfl⟩ ⟨Nat.le_refl _, Nat.le_refl _⟩ rfl dX8_claim_10) hQ hex hlk
set_option maxHeartbeats 4000000 in
set_option maxRecDepth 100000 in
theorem cJ_X8_claimX3 (l : Launch) (G : gG) (d0 mi : Nat) (Rf : Nat → Prop) (ja : Nat → Nat → Nat) (M : MS) (E : ES) (s_ : Nat) (o : Nat) (k : Nat) (hs_ : s_ < nS M) (h1 : o < nO M) (h2 : k < nL M o) (e14 : ¬ M 14 (3 * o + k) = -1) (hl9 : l.stackTraces = false) : vx_Met l yX8_claim (wB yX8_claim cX8_claim 6 (some .int)) (rmL 9 1 6) (va_Pc [.ref (ja 8 0), .int (nI s_), .int (nI o), .int (nI k)] (jT G d0 mi Rf ja M E)) xQ (xN xISE) 1 6 (jA Rf) := by
  refine st_X (own := RX8) (by decide +kernel) rfl (Nat.le_of_ble_eq_true rfl) ?_
  intro p e s m below meth c ls args Q hQ hC hr hlk hex hl hP
  obtain ⟨⟨hW, hX, hRf⟩, hT9⟩ := hP
  have hK := hX.1
  have hx := hC.1
  have hb := hC.2.1
  have hl : lv_has ls 6 [(0, .ref (ja 8 0)), (1, .int (nI s_)), (2, .int (nI o)), (3, .int (nI k))] := hl
  have hS : va_S (jA Rf) s.heap s.heap [] := va_S.rf
  have hO := hW.cnt.O10
  have hL := hW.cnt.L3 (o := o) (by omega)
  have hv2 : VL M (3 * o + k) = true := VL_ok h1 h2 hL
  have hk30 := VL_lt hW.cnt hv2
  have h3 := hW.cnt.S3
  refine lv_aload_n hx hb dX8_claim_0 rfl (lv_at hl 0 rfl) ?_
  refine lv_iload_n hx hb dX8_claim_1 rfl (lv_at hl 1 rfl) ?_
  refine cl_p (run_V hC (cJ_X8_findStation l G d0 mi Rf ja M E s_ (by omega)) (As := [.int (nI s_)]) (rest := []) rfl rfl ml_X8_150 im_X8_findStation se_X8_findStation ini_X8 cd_X8_findStation ⟨rfl, na_X8_findStation⟩ jB_blind (hW.recv hK (show jV M 8 0 from rfl) rfl) (jB_at hX hRf hW hS) hl.1 (Nat.le_of_ble_eq_true rfl) ⟨Nat.le_of_ble_eq_true rfl, Nat.le_of_ble_eq_true rfl⟩ ⟨by show 0 + 0 ≤ 1; omega, by show 0 + 0 ≤ 6; omega⟩ rfl dX8_claim_2) ?_
  refine lv_astore (lv' := [(4, .ref (ja 6 s_)), (0, .ref (ja 8 0)), (1, .int (nI s_)), (2, .int (nI o)), (3, .int (nI k))]) hx hb dX8_claim_5 hl (by decide) rfl (fun ls hl => ?_)
  refine lv_aload_n hx hb dX8_claim_7 rfl (lv_at hl 1 rfl) ?_
  refine lv_iload_n hx hb dX8_claim_8 rfl (lv_at hl 3 rfl) ?_
  refine lv_iload_n hx hb dX8_claim_9 rfl (lv_at hl 4 rfl) ?_
  refine cl_p (run_V hC (cJ_X8_findLine l G d0 mi Rf ja M E o k (by omega) (by omega)) (As := [.int (nI o), .int (nI k)]) (rest := []) rfl rfl ml_X8_154 im_X8_findLine se_X8_findLine ini_X8 cd_X8_findLine ⟨rfl, na_X8_findLine⟩ jB_blind (hW.recv hK (show jV M 8 0 from rfl) rfl) (jB_at hX hRf hW hS) hl.1 (Nat.le_of_ble_eq_true rfl) ⟨Nat.le_of_ble_eq_true rfl, Nat.le_of_ble_eq_true rfl⟩ ⟨by show 0 + 0 ≤ 1; omega, by show 0 + 0 ≤ 6; omega⟩ rfl dX8_claim_10) ?_
  refine lv_astore (lv' := [(5, .ref (ja 2 (3 * o + k))), (4, .ref (ja 6 s_)), (0, .ref (ja 8 0)), (1, .int (nI s_)), (2, .int (nI o)), (3, .int (nI k))]) hx hb dX8_claim_13 hl (by decide) rfl (fun ls hl => ?_)
  refine lv_aload hx hb dX8_claim_15 (lv_at hl 0 rfl) ?_
  rcases hW.pt.2.1 _ (show VL M (3 * o + k) = true from hv2) with hq1 | ⟨t1, ht1, hq1⟩
  · refine r1_get hC hK.1 (hW.ob (show jV M 2 (3 * o + k) from hv2)) lay_X2 rfl 3 (by decide) fl_X8_158 (fun x hx => hx) (v := .null) (show some (va_rf (jp ja 6 (M 14 (3 * o + k)))) = _ by rw [show M 14 (3 * o + k) = -1 from hq1, jp_n]; rfl) dX8_claim_17 ?_
    refine lv_ifnullN (tgt := 33) hx hb dX8_claim_20 (by decide) ?_
    exact absurd hq1 e14
  · have hb1_ := hW.cnt.S3
    refine r1_get hC hK.1 (hW.ob (show jV M 2 (3 * o + k) from hv2)) lay_X2 rfl 3 (by decide) fl_X8_158 (fun x hx => hx) (v := .ref (ja 6 t1)) (show some (va_rf (jp ja 6 (M 14 (3 * o + k)))) = _ by rw [show M 14 (3 * o + k) = nI t1 from hq1, jp_s _ (by omega)]; rfl) dX8_claim_17 ?_
    refine lv_ifnull hx hb dX8_claim_20 ?_
    exact jx_ISE hC hl9 hT9 hex hlk hl.1 (text := "the line is claimed") (by decide) ⟨Nat.le_of_ble_eq_true rfl, Nat.le_of_ble_eq_true rfl, Nat.le_refl _, Nat.le_refl _⟩ (by decide) hQ dX8_claim_23 dX8_claim_26 dX8_claim_27 dX8_claim_29 dX8_claim_32
set_option maxHeartbeats 4000000 in
set_option maxRecDepth 100000 in
theorem cJ_X8_giveUp (l : Launch) (G : gG) (d0 mi : Nat) (Rf : Nat → Prop) (ja : Nat → Nat → Nat) (M : MS) (E : ES) (o : Nat) (k : Nat) (s_ : Nat) (hs_ : s_ < nS M) (h1 : o < nO M) (h2 : k < nL M o) (e14 : M 14 (3 * o + k) = nI s_) (huq22 : uq22 M) (hin : ∃ j, j < eN E (17 + s_) ∧ eL E (17 + s_) j = 3 * o + k) (hn30 : eN E (17 + s_) ≤ 30) : Met l yX8_giveUp (wB yX8_giveUp cX8_giveUp 6 (some .int)) (rmL 6 0 0) (va_Pc [.ref (ja 8 0), .int (nI o), .int (nI k)] (jB G d0 mi Rf ja M E)) (va_Qi (S := ES) (fun v9 E2 => v9 = nI s_ ∧ (FG E s_ (3 * o + k) E2)) (fun E2 z9 => WJ G d0 Rf ja (mset (gvC M (3 * o + k)) 14 (3 * o + k) (-1)) (E2) z9.heap) (jA Rf)) 0 0 (jA Rf) := by
  refine st_N (own := RX8) (by decide +kernel) rfl (Nat.le_of_ble_eq_true rfl) ?_
  intro p e s m below meth c ls args Q hQ hC hr hlk hnm hl hP
  obtain ⟨hW, hX, hRf⟩ := hP
  have hK := hX.1
  have hx := hC.1
  have hb := hC.2.1
  have hl : lv_has ls 6 [(0, .ref (ja 8 0)), (1, .int (nI o)), (2, .int (nI k))] := hl
  obtain ⟨H, locs, hHe, hLe⟩ : ∃ (H : Heap) (locs : List Loc), H = s.heap ∧ locs = [] := ⟨_, _, rfl, rfl⟩
  rw [← hHe] at hW
  have hS : va_S (jA Rf) s.heap H locs := by rw [hHe, hLe]; exact va_S.rf
  suffices hgo : W p l e (rmL 6 0 0) s m args below meth c H locs 0 0 Q (F0 m 0 ls []) by
    rw [hHe, hLe] at hgo
    exact hgo
  clear hHe hLe
  have hO := hW.cnt.O10
  have hL := hW.cnt.L3 (o := o) (by omega)
  have hv2 : VL M (3 * o + k) = true := VL_ok h1 h2 hL
  have hk30 := VL_lt hW.cnt hv2
  have h3 := hW.cnt.S3
  refine lv_aload_n hx hb dX8_giveUp_0 rfl (lv_at hl 0 rfl) ?_
  refine lv_iload_n hx hb dX8_giveUp_1 rfl (lv_at hl 1 rfl) ?_
  refine lv_iload_n hx hb dX8_giveUp_2 rfl (lv_at hl 2 rfl) ?_
  refine cl_p (run_V hC (cJ_X8_findLine l G d0 mi Rf ja M E o k (by omega) (by omega)) (As := [.int (nI o), .int (nI k)]) (rest := []) rfl rfl ml_X8_154 im_X8_findLine se_X8_findLine ini_X8 cd_X8_findLine ⟨rfl, na_X8_findLine⟩ jB_blind (hW.recv hK (show jV M 8 0 from rfl) rfl) (jB_at hX hRf hW hS) hl.1 (Nat.le_of_ble_eq_true rfl) ⟨Nat.le_of_ble_eq_true rfl, Nat.le_of_ble_eq_true rfl⟩ ⟨Nat.le_refl _, Nat.le_refl _⟩ rfl dX8_giveUp_3) ?_
  refine lv_astore_n (lv' := [(3, .ref (ja 2 (3 * o + k))), (0, .ref (ja 8 0)), (1, .int (nI o)), (2, .int (nI k))]) hx hb dX8_giveUp_6 rfl hl (by decide) rfl (fun ls hl => ?_)
  refine lv_aload_n hx hb dX8_giveUp_7 rfl (lv_at hl 0 rfl) ?_
  refine r1_get hC hK.1 (hW.ob (show jV M 2 (3 * o + k) from hv2)) lay_X2 rfl 3 (by decide) fl_X8_158 (fun x hx => hx) (v := .ref (ja 6 s_)) (show some (va_rf (jp ja 6 (M 14 (3 * o + k)))) = _ by rw [show M 14 (3 * o + k) = nI s_ from e14, jp_s _ (by omega)]; rfl) dX8_giveUp_8 ?_
  refine lv_astore (lv' := [(4, .ref (ja 6 s_)), (3, .ref (ja 2 (3 * o + k))), (0, .ref (ja 8 0)), (1, .int (nI o)), (2, .int (nI k))]) hx hb dX8_giveUp_11 hl (by decide) rfl (fun ls hl => ?_)
  refine lv_aload hx hb dX8_giveUp_13 (lv_at hl 0 rfl) ?_
  refine lv_ifnonnull (tgt := 28) hx hb dX8_giveUp_15 (by decide) ?_
  refine lv_aload_n hx hb dX8_giveUp_28 rfl (lv_at hl 2 rfl) ?_
  refine r1_get hC hK.1 (hW.ob (show jV M 8 0 from rfl)) lay_X8 rfl 0 (by decide) fl_X8_10 (fun x hx => hx) (v := .ref (ja 0 0)) rfl dX8_giveUp_29 ?_
  refine lv_aload_n hx hb dX8_giveUp_32 rfl (lv_at hl 1 rfl) ?_
  refine cl_p (run_V hC (cJ_X0_workerFor l G d0 mi Rf ja M E (3 * o + k) (show VL M (3 * o + k) = true from hv2) huq22 (by omega)) (As := [.ref (ja 2 (3 * o + k))]) (rest := []) rfl rfl ml_X8_169 im_X0_workerFor se_X0_workerFor ini_X0 cd_X0_workerFor ⟨rfl, na_X0_workerFor⟩ jB_blind (hW.recv hK (show jV M 0 0 from rfl) rfl) (jB_at hX hRf hW hS) hl.1 (Nat.le_of_ble_eq_true rfl) ⟨Nat.le_of_ble_eq_true rfl, Nat.le_of_ble_eq_true rfl⟩ ⟨Nat.le_refl _, Nat.le_refl _⟩ rfl dX8_giveUp_33) ?_
  rcases ho1 : wlA M (3 * o + k) with _ | k1
  · refine top_v (y := .null) (by first | rfl | (rw [ho1]; rfl)) ?_
    refine lv_astoreN (lv' := [(5, .null), (4, .ref (ja 6 s_)), (3, .ref (ja 2 (3 * o + k))), (0, .ref (ja 8 0)), (1, .int (nI o)), (2, .int (nI k))]) hx hb dX8_giveUp_36 hl (by decide) rfl (fun ls hl => ?_)
    refine lv_aloadN hx hb dX8_giveUp_38 (lv_at hl 0 rfl) ?_
    refine lv_ifnullN (tgt := 48) hx hb dX8_giveUp_40 (by decide) ?_
    refine lv_aload hx hb dX8_giveUp_48 (lv_at hl 1 rfl) ?_
    refine lv_aload_n hx hb dX8_giveUp_50 rfl (lv_at hl 2 rfl) ?_
    refine jcl_vE (run_V hC (cJ_X6_forget l G d0 mi Rf ja M E s_ (3 * o + k) (show s_ < nS M from hs_) (show VL M (3 * o + k) = true from hv2) hin hn30) (As := [.ref (ja 2 (3 * o + k))]) (rest := []) rfl rfl ml_X8_178 im_X6_forget se_X6_forget ini_X6 cd_X6_forget ⟨rfl, na_X6_forget⟩ jB_blind (hW.recv hK (show jV M 6 s_ from hs_) rfl) (jB_at hX hRf hW hS) hl.1 (Nat.le_of_ble_eq_true rfl) ⟨Nat.le_of_ble_eq_true rfl, Nat.le_of_ble_eq_true rfl⟩ ⟨Nat.le_refl _, Nat.le_refl _⟩ rfl dX8_giveUp_51) hS (fun E2 hp2 H locs hW hS => ?_)
    refine lv_aload_n hx hb dX8_giveUp_54 rfl (lv_at hl 2 rfl) ?_
    refine lv_null hx hb dX8_giveUp_55 ?_
    refine jp_r14n hC hK hW hS (show VL M (3 * o + k) = true from hv2) fl_X8_158 dX8_giveUp_56 (fun H locs hW hS => ?_)
    refine lv_aload hx hb dX8_giveUp_59 (lv_at hl 1 rfl) ?_
    refine r1_get hC hK.1 (hW.ob (show jV (mset M 14 (3 * o + k) (-1)) 6 s_ from hs_)) lay_X6 rfl 0 (by decide) fl_X8_96 (fun x hx => hx) (v := .int (nI s_)) rfl dX8_giveUp_61 ?_
    subst hQ
    have hg9 : (mset M 14 (3 * o + k) (-1)) = mset (gvC M (3 * o + k)) 14 (3 * o + k) (-1) := by unfold gvC; rw [ho1]
    rw [hg9] at hW
    exact rt_qi E2 hx hb hr hlk hS ⟨rfl, hp2⟩ (fun t ht _ => by show WJ G d0 Rf ja _ _ t.heap; rw [ht]; exact hW) (by show 0 ≤ 0; omega) (by show 0 ≤ 0; omega) dX8_giveUp_64
  · refine top_v (y := .ref (ja 5 k1)) (by first | rfl | (rw [ho1]; rfl)) ?_
    have hlt_k1 : k1 < nR M := (lastE_lt (show lastE (M 22) (nI (3 * o + k)) (nR M) = some k1 from ho1)).1
    refine lv_astore (lv' := [(5, .ref (ja 5 k1)), (4, .ref (ja 6 s_)), (3, .ref (ja 2 (3 * o + k))), (0, .ref (ja 8 0)), (1, .int (nI o)), (2, .int (nI k))]) hx hb dX8_giveUp_36 hl (by decide) rfl (fun ls hl => ?_)
    refine lv_aload hx hb dX8_giveUp_38 (lv_at hl 0 rfl) ?_
    refine lv_ifnull hx hb dX8_giveUp_40 ?_
    refine lv_aload hx hb dX8_giveUp_43 (lv_at hl 0 rfl) ?_
    refine jcl_v (run_V hC (cJ_X5_leaveLine l G d0 mi Rf ja M E k1 (show k1 < nR M from hlt_k1)) (As := []) (rest := []) rfl rfl ml_X8_173 im_X5_leaveLine se_X5_leaveLine ini_X5 cd_X5_leaveLine ⟨rfl, na_X5_leaveLine⟩ jB_blind (hW.recv hK (show jV M 5 k1 from hlt_k1) rfl) (jB_at hX hRf hW hS) hl.1 (Nat.le_of_ble_eq_true rfl) ⟨Nat.le_of_ble_eq_true rfl, Nat.le_of_ble_eq_true rfl⟩ ⟨Nat.le_refl _, Nat.le_refl _⟩ rfl dX8_giveUp_45) hS (fun H locs hW hS => ?_)
    have k9 : nS (lvM M k1) = nS M := by unfold nS; rw [lv_row rfl]
    have k7 : s_ < nS (lvM M k1) := by rw [k9]; exact hs_
    have k8 : VL (lvM M k1) (3 * o + k) = true := by rw [show VL (lvM M k1) = VL M from by funext q; unfold VL nO nL; rw [lv_row (M := M) (r := k1) (j := 10) rfl, lv_row (M := M) (r := k1) (j := 11) rfl]]; exact hv2
    refine lv_aload hx hb dX8_giveUp_48 (lv_at hl 1 rfl) ?_
    refine lv_aload_n hx hb dX8_giveUp_50 rfl (lv_at hl 2 rfl) ?_
    refine jcl_vE (run_V hC (cJ_X6_forget l G d0 mi Rf ja (lvM M k1) E s_ (3 * o + k) (show s_ < nS (lvM M k1) from k7) (show VL (lvM M k1) (3 * o + k) = true from k8) hin hn30) (As := [.ref (ja 2 (3 * o + k))]) (rest := []) rfl rfl ml_X8_178 im_X6_forget se_X6_forget ini_X6 cd_X6_forget ⟨rfl, na_X6_forget⟩ jB_blind (hW.recv hK (show jV (lvM M k1) 6 s_ from k7) rfl) (jB_at hX hRf hW hS) hl.1 (Nat.le_of_ble_eq_true rfl) ⟨Nat.le_of_ble_eq_true rfl, Nat.le_of_ble_eq_true rfl⟩ ⟨Nat.le_refl _, Nat.le_refl _⟩ rfl dX8_giveUp_51) hS (fun E4 hp4 H locs hW hS => ?_)
    refine lv_aload_n hx hb dX8_giveUp_54 rfl (lv_at hl 2 rfl) ?_
    refine lv_null hx hb dX8_giveUp_55 ?_
    refine jp_r14n hC hK hW hS (show VL (lvM M k1) (3 * o + k) = true from k8) fl_X8_158 dX8_giveUp_56 (fun H locs hW hS => ?_)
    refine lv_aload hx hb dX8_giveUp_59 (lv_at hl 1 rfl) ?_
    refine r1_get hC hK.1 (hW.ob (show jV (mset (lvM M k1) 14 (3 * o + k) (-1)) 6 s_ from k7)) lay_X6 rfl 0 (by decide) fl_X8_96 (fun x hx => hx) (v := .int (nI s_)) rfl dX8_giveUp_61 ?_
    subst hQ
    have hg9 : (mset (lvM M k1) 14 (3 * o + k) (-1)) = mset (gvC M (3 * o + k)) 14 (3 * o + k) (-1) := by unfold gvC; rw [ho1]
    rw [hg9] at hW
    exact rt_qi E4 hx hb hr hlk hS ⟨rfl, hp4⟩ (fun t ht _ => by show WJ G d0 Rf ja _ _ t.heap; rw [ht]; exact hW) (by show 0 ≤ 0; omega) (by show 0 ≤ 0; omega) dX8_giveUp_64
set_option maxHeartbeats 4000000 in
set_option maxRecDepth 100000 in
theorem cJ_X8_giveUpX1 (l : Launch) (G : gG) (d0 mi : Nat) (Rf : Nat → Prop) (ja : Nat → Nat → Nat) (M : MS) (E : ES) (o : Int32) (k : Int32) (hno : lnB M o k = false) (hl9 : l.stackTraces = false) : vx_Met l yX8_giveUp (wB yX8_giveUp cX8_giveUp 6 (some .int)) (rmL 6 1 6) (va_Pc [.ref (ja 8 0), .int o, .int k] (jT G d0 mi Rf ja M E)) xQ (xN xIOE) 1 6 (jA Rf) := by
  refine st_X (own := RX8) (by decide +kernel) rfl (Nat.le_of_ble_eq_true rfl) ?_
  intro p e s m below meth c ls args Q hQ hC hr hlk hex hl hP
  obtain ⟨⟨hW, hX, hRf⟩, hT9⟩ := hP
  have hK := hX.1
  have hx := hC.1
  have hb := hC.2.1
  have hl : lv_has ls 6 [(0, .ref (ja 8 0)), (1, .int o), (2, .int k)] := hl
  have hS : va_S (jA Rf) s.heap s.heap [] := va_S.rf
  refine lv_aload_n hx hb dX8_giveUp_0 rfl (lv_at hl 0 rfl) ?_
  refine lv_iload_n hx hb dX8_giveUp_1 rfl (lv_at hl 1 rfl) ?_
  refine lv_iload_n hx hb dX8_giveUp_2 rfl (lv_at hl 2 rfl) ?_
  exact jx_call (run_VX hC (cJ_X8_findLineX l G d0 mi Rf ja M E o k (by assumption) hl9) (As := [.int o, .int k]) (rest := []) rfl rfl ml_X8_154 im_X8_findLine se_X8_findLine ini_X8 cd_X8_findLine ⟨rfl, na_X8_findLine⟩ jT_blind (hW.recv hK (show jV M 8 0 from rfl) rfl) (jT_at hX hT9 hRf hW hS) hl.1 (Nat.le_of_ble_eq_true rfl) ⟨Nat.le_of_ble_eq_true rfl, Nat.le_of_ble_eq_true rfl⟩ ⟨Nat.le_refl _, Nat.le_refl _⟩ rfl dX8_giveUp_3) hQ hex hlk
set_option maxHeartbeats 4000000 in
set_option maxRecDepth 100000 in
theorem cJ_X8_giveUpX2 (l : Launch) (G : gG) (d0 mi : Nat) (Rf : Nat → Prop) (ja : Nat → Nat → Nat) (M : MS) (E : ES) (o : Nat) (k : Nat) (h1 : o < nO M) (h2 : k < nL M o) (e14 : M 14 (3 * o + k) = -1) (hl9 : l.stackTraces = false) : vx_Met l yX8_giveUp (wB yX8_giveUp cX8_giveUp 6 (some .int)) (rmL 6 1 6) (va_Pc [.ref (ja 8 0), .int (nI o), .int (nI k)] (jT G d0 mi Rf ja M E)) xQ (xN xISE) 1 6 (jA Rf) := by
  refine st_X (own := RX8) (by decide +kernel) rfl (Nat.le_of_ble_eq_true rfl) ?_
  intro p e s m below meth c ls args Q hQ hC hr hlk hex hl hP
  obtain ⟨⟨hW, hX, hRf⟩, hT9⟩ := hP
  have hK := hX.1
  have hx := hC.1
  have hb := hC.2.1
  have hl : lv_has ls 6 [(0, .ref (ja 8 0)), (1, .int (nI o)), (2, .int (nI k))] := hl
  have hS : va_S (jA Rf) s.heap s.heap [] := va_S.rf
  have hO := hW.cnt.O10
  have hL := hW.cnt.L3 (o := o) (by omega)
  have hv2 : VL M (3 * o + k) = true := VL_ok h1 h2 hL
  have hk30 := VL_lt hW.cnt hv2
  refine lv_aload_n hx hb dX8_giveUp_0 rfl (lv_at hl 0 rfl) ?_
  refine lv_iload_n hx hb dX8_giveUp_1 rfl (lv_at hl 1 rfl) ?_
  refine lv_iload_n hx hb dX8_giveUp_2 rfl (lv_at hl 2 rfl) ?_
  refine cl_p (run_V hC (cJ_X8_findLine l G d0 mi Rf ja M E o k (by omega) (by omega)) (As := [.int (nI o), .int (nI k)]) (rest := []) rfl rfl ml_X8_154 im_X8_findLine se_X8_findLine ini_X8 cd_X8_findLine ⟨rfl, na_X8_findLine⟩ jB_blind (hW.recv hK (show jV M 8 0 from rfl) rfl) (jB_at hX hRf hW hS) hl.1 (Nat.le_of_ble_eq_true rfl) ⟨Nat.le_of_ble_eq_true rfl, Nat.le_of_ble_eq_true rfl⟩ ⟨by show 0 + 0 ≤ 1; omega, by show 0 + 0 ≤ 6; omega⟩ rfl dX8_giveUp_3) ?_
  refine lv_astore_n (lv' := [(3, .ref (ja 2 (3 * o + k))), (0, .ref (ja 8 0)), (1, .int (nI o)), (2, .int (nI k))]) hx hb dX8_giveUp_6 rfl hl (by decide) rfl (fun ls hl => ?_)
  refine lv_aload_n hx hb dX8_giveUp_7 rfl (lv_at hl 0 rfl) ?_
  refine r1_get hC hK.1 (hW.ob (show jV M 2 (3 * o + k) from hv2)) lay_X2 rfl 3 (by decide) fl_X8_158 (fun x hx => hx) (v := .null) (show some (va_rf (jp ja 6 (M 14 (3 * o + k)))) = _ by rw [show M 14 (3 * o + k) = -1 from e14, jp_n]; rfl) dX8_giveUp_8 ?_
  refine lv_astoreN (lv' := [(4, .null), (3, .ref (ja 2 (3 * o + k))), (0, .ref (ja 8 0)), (1, .int (nI o)), (2, .int (nI k))]) hx hb dX8_giveUp_11 hl (by decide) rfl (fun ls hl => ?_)
  refine lv_aloadN hx hb dX8_giveUp_13 (lv_at hl 0 rfl) ?_
  refine lv_ifnonnullN hx hb dX8_giveUp_15 ?_
  exact jx_ISE hC hl9 hT9 hex hlk hl.1 (text := "the line is not claimed") (by decide) ⟨Nat.le_of_ble_eq_true rfl, Nat.le_of_ble_eq_true rfl, Nat.le_refl _, Nat.le_refl _⟩ (by decide) hQ dX8_giveUp_18 dX8_giveUp_21 dX8_giveUp_22 dX8_giveUp_24 dX8_giveUp_27
