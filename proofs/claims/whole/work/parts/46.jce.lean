/-! WHAT THE CLASS'S OWN NUMBERS HAVE TO DO WITH THE REFERENCE'S, all along -/
/-- a sum of the machine -/
def sI (f : Nat → Int32) : Nat → Int32
  | 0 => 0
  | n + 1 => sI f n + f n
theorem sI_cg {f g : Nat → Int32} : ∀ {n : Nat}, (∀ i, i < n → f i = g i) → sI f n = sI g n
  | 0, _ => rfl
  | n + 1, h => by
    show sI f n + f n = sI g n + g n
    rw [sI_cg (fun i hi => h i (by omega)), h n (by omega)]
theorem sI_up {f g : Nat → Int32} {t : Nat} {v : Int32} : ∀ {n : Nat}, t < n → (∀ i, i < n → i ≠ t → g i = f i) → g t = f t + v → sI g n = sI f n + v
  | 0, h, _, _ => by omega
  | n + 1, h, h2, h3 => by
    show sI g n + g n = sI f n + f n + v
    by_cases e : t = n
    · subst e
      rw [sI_cg (fun i hi => h2 i (by omega) (by omega)), h3, Int32.add_assoc]
    · rw [sI_up (t := t) (by omega) (fun i hi => h2 i (by omega)) h3, h2 n (by omega) (fun q => e q.symm), Int32.add_assoc, Int32.add_assoc, Int32.add_comm v]
/-- what the trays of a good have received -/
def rcF (M : MS) (E : ES) (g : Int32) (t : Nat) : Int32 := if M 8 t = g then eR E t else 0
/-- picks of a good -/
def pcF (M : MS) (g : Int32) (i : Nat) : Int32 := if M 8 (ix (M 35 i)) = g then 1 else 0
def RC (M : MS) (E : ES) : Prop := ∀ g, g < 6 → M 32 g = sI (rcF M E (nI g)) (nT M) ∧ M 33 g = sI (pcF M (nI g)) (nP M)
def PK (M M' : MS) : Prop := M' 33 = M 33 ∧ M' 34 = M 34 ∧ M' 35 = M 35
theorem PK.rf {M : MS} : PK M M := ⟨rfl, rfl, rfl⟩
theorem PK.tr {M M1 M2 : MS} (h : PK M M1) (h2 : PK M1 M2) : PK M M2 := ⟨h2.1.trans h.1, h2.2.1.trans h.2.1, h2.2.2.trans h.2.2⟩
theorem RC.keep {M M' : MS} {E E' : ES} (h : RC M E) (h6 : M' 6 = M 6) (h8 : M' 8 = M 8) (h32 : M' 32 = M 32) (hp : PK M M') (he : eR E' = eR E) : RC M' E' := fun g hg => by
  obtain ⟨a, b⟩ := h g hg
  have eT : nT M' = nT M := by unfold nT; rw [h6]
  have eP : nP M' = nP M := by unfold nP; rw [hp.2.1]
  rw [h32, hp.1, eT, eP, a, b]
  refine ⟨sI_cg (fun i _ => ?_), sI_cg (fun i _ => ?_)⟩
  · unfold rcF; rw [h8, he]
  · unfold pcF; rw [h8, hp.2.2]
theorem PK_mv (M : MS) (r : Nat) (x : Int32) : PK M (mvF M r x) := ⟨rfl, rfl, rfl⟩
theorem PK_bec (M : MS) (r : Nat) (x : Int32) : PK M (becF M r x) := ⟨rfl, rfl, rfl⟩
theorem PK_bk (M : MS) (lo hi : Nat) : PK M (bkM M lo hi) := by
  unfold bkM
  split
  · exact ⟨rfl, rfl, rfl⟩
  · split
    · exact ⟨rfl, rfl, rfl⟩
    · exact ⟨rfl, rfl, rfl⟩
theorem PK_res (M : MS) (r : Nat) : PK M (resS M r) := by
  unfold resS
  split
  · exact ⟨trnF_row (by decide) (by decide) (by decide) rfl, trnF_row (by decide) (by decide) (by decide) rfl, trnF_row (by decide) (by decide) (by decide) rfl⟩
  · split
    · rw [brk_rfl]; exact PK_bk M _ _
    · exact PK.rf
theorem PK_asS (M : MS) (r : Nat) : PK M (asS M r) := by
  unfold asS
  split
  · unfold asdF
    split
    · exact PK.rf
    · exact PK_mv M r _
  · exact PK.rf
theorem PK_arr (M : MS) (r : Nat) : PK M (arrF M r) := by
  unfold arrF
  split
  · exact PK_bec M r _
  · exact PK.rf
theorem PK_ask (M : MS) (r : Nat) : PK M (askF M r) := ⟨ask_row (by decide) (by decide) (by decide), ask_row (by decide) (by decide) (by decide), ask_row (by decide) (by decide) (by decide)⟩
theorem PK_goG {M : MS} : ∀ t, PK M (goGo M t).1
  | 0 => PK.rf
  | t + 1 => by
    have a := PK_goG (M := M) t
    show PK M (match selG (goGo M t).1 (goGo M t).2 (nR M) with | none => goGo M t | some f => _).1
    split
    · exact a
    · dsimp only
      split
      · exact a.tr (PK_mv _ _ _)
      · exact a
theorem PK_go (M : MS) : PK M (goF M) := PK_goG _
theorem PK_srv (M : MS) (s : Nat) : PK M (srvF M s) := by
  unfold srvF
  split
  · exact PK.rf
  · have : ∀ f af, PK M (srvW s f M af) := by
      intro f
      induction f with
      | zero => intro af; exact PK.rf
      | succ f ih =>
        intro af
        cases hn : nlGo M (nI s) af 30 with
        | none => rw [srvW_none hn]; exact PK.rf
        | some k =>
          by_cases hl : M 13 k ≤ 0
          · rw [srvW_skip hn hl]; exact ih _
          · cases hs : sndF M s k with
            | none => rw [srvW_no hn hl hs]; exact ih _
            | some M' =>
              rw [srvW_yes hn hl hs]
              cases h1 : trayB M s k with
              | none => rw [snd_n1 h1] at hs; cases hs
              | some p =>
                cases h2 : robB M (ix (M 7 p.1)) with
                | none => rw [snd_n2 h1 h2] at hs; cases hs
                | some q =>
                  rw [snd_eq h1 h2] at hs
                  cases hs
                  exact (show PK M (mset (mset M 22 q.1 (nI k)) 21 q.1 (nI p.1)) from ⟨rfl, rfl, rfl⟩).tr (PK_bec _ _ _)
    exact this _ _
theorem itR_PK {f : MS → Nat → MS} (hf : ∀ M r, PK M (f M r)) (M : MS) : ∀ n, PK M (itR f n M)
  | 0 => PK.rf
  | n + 1 => (itR_PK hf M n).tr (hf _ n)
/-- the cells in which dead robots stand -/
def DD (M : MS) (E : ES) : Prop := ∀ q, q < 64 → (eD E q = true ↔ ∃ r, r < nR M ∧ M 18 r = nI q ∧ M 20 r = 5)
theorem DD.keep {M M' : MS} {E E' : ES} (h : DD M E) (d : DK M M') (e : eD E' = eD E) : DD M' E' := fun q hq => by
  rw [e, h q hq, d.1]
  constructor
  · rintro ⟨r, a, b, c⟩
    exact ⟨r, a, ((d.2.2.2 r a).2 c).trans b, (d.2.2.2 r a).1.mpr c⟩
  · rintro ⟨r, a, b, c⟩
    have c2 := (d.2.2.2 r a).1.mp c
    exact ⟨r, a, ((d.2.2.2 r a).2 c2).symm.trans b, c2⟩
theorem DD.hD {M : MS} {E : ES} (h : DD M E) (hu : uq18 M) : hD_ M E := fun q hq => by
  rw [Bool.eq_iff_iff, opnB_iff hu]
  unfold opE
  have h1 := h q hq
  cases he : eD E q with
  | true =>
    obtain ⟨r, a, b, c⟩ := h1.mp he
    simp only [Bool.not_true, Bool.and_false, Bool.false_eq_true, false_iff, not_and]
    exact fun _ _ z => z r a b c
  | false =>
    simp only [Bool.not_false, Bool.and_true, Bool.and_eq_true, decide_eq_true_eq]
    refine ⟨fun z => ⟨z.1, z.2, fun r a b c => ?_⟩, fun z => ⟨z.1, z.2.1⟩⟩
    rw [h1.mpr ⟨r, a, b, c⟩] at he; cases he
def CE (M : MS) (E : ES) : Prop := DD M E ∧ AS M E ∧ CL M E ∧ RC M E
theorem CE.hD {B : Nat} {M : MS} {E : ES} (h : CE M E) (hI : INV B M) : hD_ M E := h.1.hD hI.u18
/-- a pass keeps it -/
theorem CE.pass {B B' : Nat} {M M' : MS} {E E' : ES} (h : CE M E) (hI : INV B M) (hI' : INV B' M') (k : kpt M M') (d : DK M M') (p : PK M M') (e : EK E E') (ha : AS M' E') : CE M' E' :=
  ⟨h.1.keep d e.2.1, ha, h.2.2.1.kp k e, h.2.2.2.keep (k 6 rfl) (k 8 rfl) (k 32 rfl) p e.1⟩
theorem CE.ep {M : MS} {E E' : ES} (h : CE M E) (e : EP E E') : CE M E' := by
  obtain ⟨a, b, c, d⟩ := h
  refine ⟨a.keep DK.rf e.2.2.1, fun r hr ha => ?_, ?_, ?_⟩
  · rw [e.1]; exact b r hr ha
  · exact c.keep rfl rfl rfl rfl (fun i _ => ⟨by rw [e.2.2.2.1], by rw [e.2.2.2.2.1]⟩)
  · exact d.keep rfl rfl rfl PK.rf e.2.1
theorem CE.tm {B : Nat} {M : MS} {E : ES} (h : CE M E) (hI : INV B M) (ht : tN M < 3000) : CE (tmS M) E := by
  have d : DK M (tmS M) := DK_rows rfl rfl rfl rfl (fun _ _ _ => rfl)
  exact ⟨h.1.keep d rfl, h.2.1.keep ⟨rfl, rfl, fun _ _ => Or.inr rfl⟩ rfl, h.2.2.1.keep rfl rfl rfl rfl (fun _ _ => ⟨rfl, rfl⟩), h.2.2.2.keep rfl rfl rfl PK.rf rfl⟩
theorem RC_pkC {M : MS} {E : ES} {k t : Nat} (h : RC M E) (hg : ∃ g, g < 6 ∧ M 8 t = nI g) (ht : t < 16) (hp : nP M < 1500) : RC (pkC M k t) E := by
  obtain ⟨g0, hg0, eg⟩ := hg
  have e8 : pkC M k t 8 = M 8 := rfl
  have e33 : pkC M k t 33 = upd (M 33) g0 (M 33 g0 + 1) := by
    show upd (M 33) (ix (M 8 t)) (M 33 (ix (M 8 t)) + 1) = _
    rw [eg, ix_nI (by omega)]
  have e35 : pkC M k t 35 = upd (M 35) (nP M) (nI t) := rfl
  have eP : nP (pkC M k t) = nP M + 1 := by
    show (upd (M 34) 0 (nI (nP M + 1)) 0).toNatClampNeg = _
    rw [upd_s, nI_clamp (by omega)]
  intro g hg
  obtain ⟨a, b⟩ := h g hg
  refine ⟨a, ?_⟩
  rw [eP, e33]
  show upd (M 33) g0 (M 33 g0 + 1) g = sI (pcF (pkC M k t) (nI g)) (nP M) + pcF (pkC M k t) (nI g) (nP M)
  have hs : sI (pcF (pkC M k t) (nI g)) (nP M) = sI (pcF M (nI g)) (nP M) := sI_cg (fun i hi => by
    unfold pcF
    rw [e8, e35, upd_n _ _ (show i ≠ nP M by omega)])
  have hl : pcF (pkC M k t) (nI g) (nP M) = if g0 = g then 1 else 0 := by
    unfold pcF
    rw [e8, e35, upd_s, ix_nI (by omega), eg]
    by_cases q : g0 = g
    · rw [q, if_pos rfl, if_pos rfl]
    · rw [if_neg q, if_neg (fun z => q ((nI_eq (by omega) (by omega)).mp z))]
  rw [hs, hl, ← b]
  by_cases q : g0 = g
  · subst q; rw [upd_s, if_pos rfl]
  · rw [upd_n _ _ (fun z => q z.symm), if_neg q, Int32.add_zero]
theorem CE.pkS {B : Nat} {M : MS} {E : ES} {r : Nat} (h : CE M E) (hI : INV B M) (hr : r < nR M) : CE (pkS M r) E := by
  by_cases h3 : M 20 r = 3
  · have e : _root_.Jvm.Pilot.CShelfSwarmLaw_law_r1023_229280.pkS M r = pkF M r := if_pos h3
    obtain ⟨t, k, s, n, ht, e21, hv, e22, -⟩ := srvg hI hr h3
    have h16 := hI.c.T16
    have hk := VL_lt hI.c hv
    have hI' := INV_pk hI hr h3
    have hB := pkB_C e22 e21 hk (by omega : t < 16)
    have hrc := RC_pkC (k := k) h.2.2.2 (hI.f.2.1 t ht).2 (by omega) (pk_1500 hI hr h3)
    have hdk : DK M (pkC M k t) ∧ AK M (pkC M k t) := ⟨DK_rows rfl rfl rfl rfl (fun _ _ _ => rfl), rfl, rfl, fun _ _ => Or.inr rfl⟩
    have hkp := pk_kpt M r
    have hd : DK M (pkF M r) ∧ AK M (pkF M r) ∧ RC (pkF M r) E := by
      unfold pkF
      rw [hB]
      split
      · refine ⟨hdk.1.tr (DK_one (r := r) (((((offR.rf.set rfl).set rfl).set rfl).set rfl).set rfl) ?_ (by rw [bec_20]; decide)), hdk.2.tr (AK_bec _ _ _), hrc.keep rfl rfl rfl (PK_bec _ _ _) rfl⟩
        show ¬ M 20 r = 5
        rw [h3]; decide
      · exact ⟨hdk.1, hdk.2, hrc⟩
    rw [e]
    exact ⟨h.1.keep hd.1 rfl, h.2.1.keep hd.2.1 rfl, h.2.2.1.kp hkp EK.rf, hd.2.2⟩
  · rw [show _root_.Jvm.Pilot.CShelfSwarmLaw_law_r1023_229280.pkS M r = M from if_neg h3]; exact h
theorem CE.pk {B : Nat} {M : MS} {E : ES} (h : CE M E) (hI : INV B M) : ∀ n, n ≤ nR M → CE (itR _root_.Jvm.Pilot.CShelfSwarmLaw_law_r1023_229280.pkS n M) E
  | 0, _ => h
  | n + 1, hn => by
    obtain ⟨a, b⟩ := pk_P hI n (by omega)
    exact (h.pk hI n (by omega)).pkS a (by rw [b.eR]; omega)
theorem CE.srv {B : Nat} {M : MS} {E : ES} (h : CE M E) (hI : INV B M) : CE (itR srvF (nS M) M) E := by
  have hf : ∀ M1 q, INV B M1 → kpt M M1 → q < nS M → INV B (srvF M1 q) ∧ kpt M1 (srvF M1 q) := fun M1 q a b c => INV_srv a (by rw [b.eS]; exact c)
  obtain ⟨a, b⟩ := itR_INV hI hf (nS M) (Nat.le_refl _)
  have hak : ∀ n, n ≤ nS M → AK M (itR srvF n M) := fun n => by
    induction n with
    | zero => intro _; exact AK.rf
    | succ n ih =>
      intro hn
      exact (ih (by omega)).tr (DK_srv (itR_INV hI hf n (by omega)).1).2
  exact h.pass hI a b (itR_DK hI hf (fun M1 q a b c => (DK_srv a).1) _ (Nat.le_refl _)) (itR_PK PK_srv M _) EK.rf (h.2.1.keep (hak _ (Nat.le_refl _)) rfl)
theorem CE.ask {B : Nat} {M : MS} {E E' : ES} (h : CE M E) (hI : INV B M) (e : EK E E') (ha : AS (itR askF (nR M) M) E') : CE (itR askF (nR M) M) E' := by
  have hf : ∀ M1 q, INV B M1 → kpt M M1 → q < nR M → INV B (askF M1 q) ∧ kpt M1 (askF M1 q) := fun M1 q a b c => INV_askK a (by rw [b.eR]; exact c)
  obtain ⟨a, b⟩ := itR_INV hI hf (nR M) (Nat.le_refl _)
  exact h.pass hI a b (itR_DK hI hf (fun M1 q a b c => DK_ask M1 q) _ (Nat.le_refl _)) (itR_PK PK_ask M _) e ha
theorem CE.res {B : Nat} {M : MS} {E E' : ES} (h : CE M E) (hI : INV B M) (e : RK E E') : CE (itR resS (nR M) M) E' := by
  have hf : ∀ M1 q, INV B M1 → kpt M M1 → q < nR M → INV B (resS M1 q) ∧ kpt M1 (resS M1 q) := fun M1 q a b c => INV_res a (by rw [b.eR]; exact c)
  obtain ⟨a, b⟩ := itR_INV hI hf (nR M) (Nat.le_refl _)
  exact h.pass hI a b (itR_DK hI hf (fun M1 q a b c => DK_res a (by rw [b.eR]; exact c)) _ (Nat.le_refl _)) (itR_PK PK_res M _) e.1 (h.2.1.keep (itR_AK AK_res M _) e.2.1)
theorem CE.as {B : Nat} {M : MS} {E : ES} (h : CE M E) (hI : INV B M) : CE (itR asS (nR M) M) E := by
  have hf : ∀ M1 q, INV B M1 → kpt M M1 → q < nR M → INV B (asS M1 q) ∧ kpt M1 (asS M1 q) := fun M1 q a b c => INV_asS a (by rw [b.eR]; exact c)
  obtain ⟨a, b⟩ := itR_INV hI hf (nR M) (Nat.le_refl _)
  exact h.pass hI a b (itR_DK hI hf (fun M1 q a b c => DK_asS a) _ (Nat.le_refl _)) (itR_PK PK_asS M _) EK.rf (h.2.1.keep (itR_AK AK_asS M _) rfl)
theorem CE.go {B : Nat} {M : MS} {E E' : ES} (h : CE M E) (hI : INV B M) (e : RQ E E') : CE (goF M) E' := by
  obtain ⟨a, b⟩ := INV_go hI
  exact h.pass hI a b (DK_go hI) (PK_go M) e.1 (h.2.1.keep (AK_go hI) e.2.1)
theorem CE.arr {B : Nat} {M : MS} {E : ES} (h : CE M E) (hI : INV B M) : CE (itR arrF (nR M) M) E := by
  have hf : ∀ M1 q, INV B M1 → kpt M M1 → q < nR M → INV B (arrF M1 q) ∧ kpt M1 (arrF M1 q) := fun M1 q a b c => INV_arrK a (by rw [b.eR]; exact c)
  obtain ⟨a, b⟩ := itR_INV hI hf (nR M) (Nat.le_refl _)
  exact h.pass hI a b (itR_DK hI hf (fun M1 q a b c => DK_arr (by obtain ⟨j, hj, e⟩ := (a.r.1 q (by rw [b.eR]; exact c)).1; rw [e]; exact nI_m1 (by omega))) _ (Nat.le_refl _)) (itR_PK PK_arr M _) EK.rf (h.2.1.keep (itR_AK AK_arr M _) rfl)
theorem uC_1 (E : ES) (i : Nat) : uC E i ≤ 1 := by unfold uC; split <;> omega
theorem ps1_def {B : Nat} {M : MS} (hI : INV B M) (ht : tN M < 3000) : itR pkS (nR (tmS M)) (tmS M) = ps1 M := by
  unfold ps1
  have e : nR (tmS M) = nR M := by unfold nR tmS; rw [mset_n _ _ _ (by decide)]
  rw [e]
  rfl
theorem nP_PK {M M' : MS} (h : PK M M') : nP M' = nP M := by unfold nP; rw [h.2.1]
/-- picks are made at point 2 alone -/
theorem pas_P (M : MS) : nP (pasF M) = nP (ps1 M) := by
  have h2 : PK (ps1 M) (ps2 M) := itR_PK PK_srv _ _
  have h3 : PK (ps2 M) (ps3 M) := itR_PK PK_ask _ _
  have h4 : PK (ps3 M) (ps4 M) := itR_PK PK_res _ _
  have h5 : PK (ps4 M) (ps5 M) := itR_PK PK_asS _ _
  have h6 : PK (ps5 M) (ps6 M) := PK_go _
  have h7 : PK (ps6 M) (pasF M) := itR_PK PK_arr _ _
  exact nP_PK (((((h2.tr h3).tr h4).tr h5).tr h6).tr h7)
theorem ps1_P {B : Nat} {M : MS} (hI : INV B M) (ht : tN M < 3000) : nP M ≤ nP (ps1 M) := by
  rw [← ps1_def hI ht]
  exact pk_mono (INV_time hI ht) (Nat.zero_le _) (Nat.le_refl _)
theorem itP_P {B : Nat} {M : MS} (hI : INV B M) : ∀ n, tN M + n ≤ 3000 → nP M ≤ nP (itP n M)
  | 0, _ => Nat.le_refl _
  | n + 1, h => by
    have a := itP_P hI n (by omega)
    obtain ⟨b, c⟩ := itP_inv hI n (by omega)
    have d := ps1_P b (by omega)
    show nP M ≤ nP (pasF (itP n M))
    rw [pas_P]; omega
theorem itP_Pm {B : Nat} {M : MS} (hI : INV B M) {n m : Nat} (hnm : n ≤ m) (h : tN M + m ≤ 3000) : nP (itP n M) ≤ nP (itP m M) := by
  obtain ⟨d, rfl⟩ := Nat.le.dest hnm
  obtain ⟨b, c⟩ := itP_inv hI n (by omega)
  have e : ∀ d, itP (n + d) M = itP d (itP n M) := by
    intro d
    induction d with
    | zero => rfl
    | succ d ih => show pasF (itP (n + d) M) = pasF (itP d (itP n M)); rw [ih]
  rw [e]
  exact itP_P b d (by omega)
