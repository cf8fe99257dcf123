/-! Both sides of a call: the calls that only ask -/
def tR (w : Wl) (H : Hs) (B : Bk) (a : Int) : Int := if a = 0 then w 0 0 else if a = 1 then w 0 1 else if a = 2 then w 0 3 else if a = 3 then w 0 7 else if a = 4 then bro w (w 0 3) - used w else if a = 5 then (bs (pP1 w) (w 0 2).toNat : Int) else if a = 6 then (bs (pC1 w) (w 0 2).toNat : Int) else if a = 7 then w 0 4 else if a = 8 then w 0 5 else if a = 9 then w 0 6 else if a = 10 then jts w else if a = 11 then hrm w else if a = 12 then fts w else if a = 13 then bH (bst w) else if a = 14 then bE (bst w) else if a = 15 then mw w else if a = 16 then stp w else if a = 17 then (B.1 : Int) else if a = 18 then fwF w B B.1 0 else if a = 19 then (H.1 : Int) else -1000000002
def PC (g : pG) (T T2 : Int) (yc ym : MethodName) (as : List pV) : Prop := ∀ (σ : pM) (w : Wl) (H : Hs) (s : Int) (B : Bk) (I : Ig), aOK T w H s B I → CI σ w H s B I → MI σ w H s B I → ∃ (r : Int) (σ1 σ2 : pM) (w2 : Wl) (H2 : Hs) (s2 : Int) (B2 : Bk) (I2 : Ig), Ca 60 yc (vR (some 1) :: as) g σ [vI r] g σ1 ∧ Ca 60 ym (vR (some 166) :: as) g σ1 [vI r] g σ2 ∧ iR r ∧ aOK T2 w2 H2 s2 B2 I2 ∧ CI σ2 w2 H2 s2 B2 I2 ∧ MI σ2 w2 H2 s2 B2 I2 ∧ σ1 0 = σ 0 ∧ σ2 0 = σ 0
theorem CI.frM {σ σ2 : pM} {w : Wl} {H : Hs} {s : Int} {B : Bk} {I : Ig} (h : FrM σ σ2) (hc : CI σ w H s B I) : CI σ2 w H s B I := hc.co (fun x hx => h x (by omega))
theorem pc_mk {g : pG} {T2 : Int} {yc ym : MethodName} {as : List pV} {σ : pM} {w w2 : Wl} {H H2 : Hs} {s s2 : Int} {B B2 : Bk} {I I2 : Ig} (r : Int) (hM : MI σ w H s B I) (hr : iR r) (hok : aOK T2 w2 H2 s2 B2 I2) (hc : ∃ σ1, Ca 60 yc (vR (some 1) :: as) g σ [vI r] g σ1 ∧ CI σ1 w2 H2 s2 B2 I2 ∧ FrC σ σ1) (hm : ∀ σ1, MI σ1 w H s B I → ∃ σ2, Ca 60 ym (vR (some 166) :: as) g σ1 [vI r] g σ2 ∧ MI σ2 w2 H2 s2 B2 I2 ∧ FrM σ1 σ2) : ∃ (r : Int) (σ1 σ2 : pM) (w2 : Wl) (H2 : Hs) (s2 : Int) (B2 : Bk) (I2 : Ig), Ca 60 yc (vR (some 1) :: as) g σ [vI r] g σ1 ∧ Ca 60 ym (vR (some 166) :: as) g σ1 [vI r] g σ2 ∧ iR r ∧ aOK T2 w2 H2 s2 B2 I2 ∧ CI σ2 w2 H2 s2 B2 I2 ∧ MI σ2 w2 H2 s2 B2 I2 ∧ σ1 0 = σ 0 ∧ σ2 0 = σ 0 := by
  obtain ⟨σ1, c1, c2, c3⟩ := hc
  obtain ⟨σ2, m1, m2, m3⟩ := hm σ1 (hM.frC c3)
  exact ⟨r, σ1, σ2, w2, H2, s2, B2, I2, c1, m1, hr, hok, c2.frM m3, m2, c3 0 (Or.inl rfl), by rw [m3 0 (by decide), c3 0 (Or.inl rfl)]⟩
section S5
variable {g : pG} {T : Int}
theorem bst_bd {w : Wl} (hw : wOK T w) (hs : wS w) (h200 : 200 ≤ T) (hT : T ≤ 88000) : (-1 ≤ bH (bst w) ∧ bH (bst w) ≤ 1000) ∧ (-1 ≤ bE (bst w) ∧ bE (bst w) ≤ 1000000) := by
  have h : ∀ (n : Nat) (w : Wl) (T : Int) (ch : Nat → Int) (dep : Nat) (b : Bs), wOK T w → 200 ≤ T → T + 3 * n ≤ 90000 → ((-1 ≤ bH b ∧ bH b ≤ 1000) ∧ (-1 ≤ bE b ∧ bE b ≤ 1000000)) → ((-1 ≤ bH (exG n w ch dep b) ∧ bH (exG n w ch dep b) ≤ 1000) ∧ (-1 ≤ bE (exG n w ch dep b) ∧ bE (exG n w ch dep b) ≤ 1000000)) := by
    intro n
    induction n with
    | zero =>
      intro w T ch dep b hw h2 h3 hb
      have hh := hrm_bd hw
      have ht := hw.tm
      rw [exG]
      have y : (-1 ≤ hrm w ∧ hrm w ≤ 1000) ∧ (-1 ≤ w 0 3 ∧ w 0 3 ≤ 1000000) := by omega
      cases b with
      | none => exact y
      | some q =>
        rw [lf_some]
        split
        · exact y
        · exact hb
    | succ n ih =>
      intro w T ch dep b hw h2 h3 hb
      have hcl := hw.cells
      rw [exG]
      have key : ∀ k : Nat, k ≤ (w 0 2).toNat → ((-1 ≤ bH (fl (fun c b => if stt w c = -1 then b else exG n (fil w c) (c1 ch dep c) (dep + 1) b) b k) ∧ bH (fl (fun c b => if stt w c = -1 then b else exG n (fil w c) (c1 ch dep c) (dep + 1) b) b k) ≤ 1000) ∧ (-1 ≤ bE (fl (fun c b => if stt w c = -1 then b else exG n (fil w c) (c1 ch dep c) (dep + 1) b) b k) ∧ bE (fl (fun c b => if stt w c = -1 then b else exG n (fil w c) (c1 ch dep c) (dep + 1) b) b k) ≤ 1000000)) := by
        intro k
        induction k with
        | zero => intro _; exact hb
        | succ k ihk =>
          intro hk
          have hi := ihk (by omega)
          rw [fl]
          split
          · exact hi
          · exact ih (fil w k) (T + 3) _ _ _ (fil_ok hw h2 (by omega)) (by omega) (by omega) hi
      exact key _ (Nat.le_refl _)
  have hub := un_bd hw
  exact h _ w T _ _ none hw h200 (by omega) (by decide)
theorem mw_iR {w : Wl} : iR (mw w) := by
  unfold mw
  split
  · decide
  · have := mxU_bd (mwF w (by assumption : Int × Int × (Nat → Int)).1) 12
    exact rO (by omega) (by omega)
theorem fwF_bd (w : Wl) (B : Bk) : ∀ m i, -1 ≤ fwF w B m i ∧ fwF w B m i ≤ (i + m : Nat)
  | 0, i => by
    show -1 ≤ (-1 : Int) ∧ (-1 : Int) ≤ _
    omega
  | m + 1, i => by
    have := fwF_bd w B m (i + 1)
    unfold fwF
    split <;> omega
theorem pc_told {a : Int} (hG : gAll g) (h200 : 200 ≤ T) (hT : T ≤ 80000) (ha : iR a) : PC g T (T + 60) yX5_told yX6_told [vI a] := by
  intro σ w H s B I hok hc hM
  obtain ⟨⟨hw, hs⟩, hH, hsd, hB, hI⟩ := id hok
  have h1 := hc.1
  have hcw : wOK T (cv σ 2) := by rw [h1]; exact hw
  by_cases h13 : a = 13
  · subst h13
    refine pc_mk (bH (bst w)) hM (rO (by have := (bst_bd hw hs h200 (by omega)).1; omega) (by have := (bst_bd hw hs h200 (by omega)).1; omega)) (hok.le (by omega)) ?_ (fun σ1 hm => ?_)
    · obtain ⟨t, a1, a2, a3, a4⟩ := c_plan (d := 45) hG hc hw hs h200 (by omega)
      refine ⟨t, ca_in cd_X5_told bd_X5_told rfl (by decide) (Nat.le_of_ble_eq_true rfl) (fun Q P hP hQ => ?_), a2, fun x hx => a4 x (by omega) (by omega)⟩
      exact k_X5_told_0 hP _ hG ⟨by decide, fun z => absurd z (by decide), fun z => absurd z (by decide), fun z => absurd z (by decide), fun z => absurd z (by decide), fun z => absurd z (by decide), fun z => absurd z (by decide), fun z => absurd z (by decide), fun z => absurd z (by decide), fun z => absurd z (by decide), fun z => absurd z (by decide), fun z => absurd z (by decide), fun z => absurd z (by decide), fun z => absurd z (by decide), fun z => absurd z (by decide), fun _ => ⟨t, a1, _, c_leastHarm (d := 58) hG.P_14 a3, hQ⟩, fun z => absurd z (by decide), fun z => absurd z (by decide), fun z => absurd z (by decide), fun z => absurd z (by decide), fun z => absurd z (by decide), fun z => absurd z (by decide)⟩
    · obtain ⟨t, b1, b2', b3⟩ := c_finds (d := 51) (σ := σ1) (T := T) hG (by rw [hm.1]; exact hw) h200 (by omega)
      rw [hm.1] at b2'
      have hr := b2'.r (by have := un_bd hw; omega)
      have of : Ca 59 yX6_ofBest [vR (some 166), vI 13] g σ1 [vI (bH (bst w))] g t := by
        refine ca_in cd_X6_ofBest bd_X6_ofBest rfl (by decide) (Nat.le_of_ble_eq_true rfl) (fun Q P hP hQ => ?_)
        exact k_X6_ofBest_0 hP _ hG ⟨t, b1, by decide, fun z => absurd rfl z, fun _ => by rw [hr.2.2.2.1]; exact hQ⟩
      refine ⟨t, ca_in cd_X6_told bd_X6_told rfl (by decide) (Nat.le_of_ble_eq_true rfl) (fun Q P hP hQ => ?_), hm.fk b3, b3.frM⟩
      exact k_X6_told_0 hP _ hG ⟨by decide, fun z => absurd z (by decide), fun z => absurd z (by decide), fun z => absurd z (by decide), fun z => absurd z (by decide), fun z => absurd z (by decide), fun z => absurd z (by decide), fun z => absurd z (by decide), fun z => absurd z (by decide), fun z => absurd z (by decide), fun z => absurd z (by decide), fun z => absurd z (by decide), fun z => absurd z (by decide), fun z => absurd z (by decide), fun z => absurd z (by decide), fun _ => ⟨_, t, of, hQ⟩, fun z => absurd z (by decide), fun z => absurd z (by decide), fun z => absurd z (by decide), fun z => absurd z (by decide), fun z => absurd z (by decide), fun z => absurd z (by decide)⟩
  by_cases h14 : a = 14
  · subst h14
    refine pc_mk (bE (bst w)) hM (rO (by have := (bst_bd hw hs h200 (by omega)).2; omega) (by have := (bst_bd hw hs h200 (by omega)).2; omega)) (hok.le (by omega)) ?_ (fun σ1 hm => ?_)
    · obtain ⟨t, a1, a2, a3, a4⟩ := c_plan (d := 45) hG hc hw hs h200 (by omega)
      refine ⟨t, ca_in cd_X5_told bd_X5_told rfl (by decide) (Nat.le_of_ble_eq_true rfl) (fun Q P hP hQ => ?_), a2, fun x hx => a4 x (by omega) (by omega)⟩
      exact k_X5_told_0 hP _ hG ⟨by decide, fun z => absurd z (by decide), fun z => absurd z (by decide), fun z => absurd z (by decide), fun z => absurd z (by decide), fun z => absurd z (by decide), fun z => absurd z (by decide), fun z => absurd z (by decide), fun z => absurd z (by decide), fun z => absurd z (by decide), fun z => absurd z (by decide), fun z => absurd z (by decide), fun z => absurd z (by decide), fun z => absurd z (by decide), fun z => absurd z (by decide), fun z => absurd z (by decide), fun _ => ⟨t, a1, _, c_earliestEnd (d := 58) hG.P_14 a3, hQ⟩, fun z => absurd z (by decide), fun z => absurd z (by decide), fun z => absurd z (by decide), fun z => absurd z (by decide), fun z => absurd z (by decide)⟩
    · obtain ⟨t, b1, b2', b3⟩ := c_finds (d := 51) (σ := σ1) (T := T) hG (by rw [hm.1]; exact hw) h200 (by omega)
      rw [hm.1] at b2'
      have hr := b2'.r (by have := un_bd hw; omega)
      have of : Ca 59 yX6_ofBest [vR (some 166), vI 14] g σ1 [vI (bE (bst w))] g t := by
        refine ca_in cd_X6_ofBest bd_X6_ofBest rfl (by decide) (Nat.le_of_ble_eq_true rfl) (fun Q P hP hQ => ?_)
        exact k_X6_ofBest_0 hP _ hG ⟨t, b1, by decide, fun _ => by rw [hr.2.2.2.2]; exact hQ, fun z => absurd (by decide) z⟩
      refine ⟨t, ca_in cd_X6_told bd_X6_told rfl (by decide) (Nat.le_of_ble_eq_true rfl) (fun Q P hP hQ => ?_), hm.fk b3, b3.frM⟩
      exact k_X6_told_0 hP _ hG ⟨by decide, fun z => absurd z (by decide), fun z => absurd z (by decide), fun z => absurd z (by decide), fun z => absurd z (by decide), fun z => absurd z (by decide), fun z => absurd z (by decide), fun z => absurd z (by decide), fun z => absurd z (by decide), fun z => absurd z (by decide), fun z => absurd z (by decide), fun z => absurd z (by decide), fun z => absurd z (by decide), fun z => absurd z (by decide), fun z => absurd z (by decide), fun z => absurd z (by decide), fun _ => ⟨_, t, of, hQ⟩, fun z => absurd z (by decide), fun z => absurd z (by decide), fun z => absurd z (by decide), fun z => absurd z (by decide), fun z => absurd z (by decide)⟩
  by_cases h15 : a = 15
  · subst h15
    refine pc_mk (mw w) hM mw_iR (hok.le (by omega)) ?_ (fun σ1 hm => ?_)
    · obtain ⟨t, a1, a2, a3⟩ := c_mayWait (d := 43) hG hc hw hs h200 (by omega)
      refine ⟨t, ca_in cd_X5_told bd_X5_told rfl (by decide) (Nat.le_of_ble_eq_true rfl) (fun Q P hP hQ => ?_), a2, a3⟩
      exact k_X5_told_0 hP _ hG ⟨by decide, fun z => absurd z (by decide), fun z => absurd z (by decide), fun z => absurd z (by decide), fun z => absurd z (by decide), fun z => absurd z (by decide), fun z => absurd z (by decide), fun z => absurd z (by decide), fun z => absurd z (by decide), fun z => absurd z (by decide), fun z => absurd z (by decide), fun z => absurd z (by decide), fun z => absurd z (by decide), fun z => absurd z (by decide), fun z => absurd z (by decide), fun z => absurd z (by decide), fun z => absurd z (by decide), fun _ => ⟨_, t, a1, hQ⟩, fun z => absurd z (by decide), fun z => absurd z (by decide), fun z => absurd z (by decide), fun z => absurd z (by decide)⟩
    · obtain ⟨t, b1, b2', b3⟩ := c_mmayWait (d := 51) hG hm hw hs h200 (by omega)
      refine ⟨t, ca_in cd_X6_told bd_X6_told rfl (by decide) (Nat.le_of_ble_eq_true rfl) (fun Q P hP hQ => ?_), b2', b3⟩
      exact k_X6_told_0 hP _ hG ⟨by decide, fun z => absurd z (by decide), fun z => absurd z (by decide), fun z => absurd z (by decide), fun z => absurd z (by decide), fun z => absurd z (by decide), fun z => absurd z (by decide), fun z => absurd z (by decide), fun z => absurd z (by decide), fun z => absurd z (by decide), fun z => absurd z (by decide), fun z => absurd z (by decide), fun z => absurd z (by decide), fun z => absurd z (by decide), fun z => absurd z (by decide), fun z => absurd z (by decide), fun z => absurd z (by decide), fun _ => ⟨_, t, b1, hQ⟩, fun z => absurd z (by decide), fun z => absurd z (by decide), fun z => absurd z (by decide), fun z => absurd z (by decide)⟩
  have hcl := hw.cells
  have hst := hw.st
  have hly := hw.ly
  have htm := hw.tm
  have hnt := hw.nt
  have hag := hw.ag
  have hhv := hw.hv
  have hlg := hw.lg
  have hub := used_bd hw
  have hbb := bro_bd hw (w 0 3)
  have hhb := hrm_bd hw
  have hsb := stp_bd hw
  have hfw := fwF_bd w B B.1 0
  have hpb : (bs (pP1 w) (w 0 2).toNat) < 512 := bs_512 _ (by omega)
  have hcb : (bs (pC1 w) (w 0 2).toNat) < 512 := bs_512 _ (by omega)
  have hjb := su_bd (f := fN w) (a := 0) (b := 1) (n := 27) (fun k hk => by unfold fN; split <;> omega)
  have hjts : jts w = su (fN w) 27 := rfl
  have hfb : -1 ≤ fts w ∧ fts w < 27 := by
    rcases ftp_rel (w := w) 27 with q | ⟨j, q1, q2, q3⟩
    · show -1 ≤ (ftp w 27).1 ∧ _; rw [fts, q.1]; decide
    · rw [fts, q2]; omega
  refine pc_mk (tR w H B a) hM ?_ (hok.le (by omega)) ⟨σ, ca_in cd_X5_told bd_X5_told rfl (by decide) (Nat.le_of_ble_eq_true rfl) (fun Q P hP hQ => ?_), hc, FrC.rf⟩ (fun σ1 hm => ⟨σ1, ca_in cd_X6_told bd_X6_told rfl (by decide) (Nat.le_of_ble_eq_true rfl) (fun Q P hP hQ => ?_), hm, FrM.rf⟩)
  · unfold tR
    (repeat' split) <;> first | exact rO (by omega) (by omega) | omega
  · have c00 : w 0 0 = σ 2 0 := by rw [← h1]; exact cv0 (by decide)
    have c01 : w 0 1 = σ 2 1 := by rw [← h1]; exact cv0 (by decide)
    have c03 : w 0 3 = σ 2 3 := by rw [← h1]; exact cv0 (by decide)
    have c04 : w 0 4 = σ 2 4 := by rw [← h1]; exact cv0 (by decide)
    have c05 : w 0 5 = σ 2 5 := by rw [← h1]; exact cv0 (by decide)
    have c06 : w 0 6 = σ 2 6 := by rw [← h1]; exact cv0 (by decide)
    have c07 : w 0 7 = σ 2 7 := by rw [← h1]; exact cv0 (by decide)
    have cst := c_stock (d := 56) (σ := σ) (o := 2) (T := T) hG.W_2 hcw (by omega)
    have cps := c_pset (d := 57) (σ := σ) (o := 2) (T := T) hG.W_2 hcw (by omega)
    have ccs := c_cset (d := 55) (σ := σ) (o := 2) (T := T) hG.W_2 hcw (by omega)
    have cjt := c_joints (d := 55) (σ := σ) (o := 2) (T := T) hG.W_2 hcw (by omega)
    have chr := c_harm (d := 55) (σ := σ) (o := 2) (T := T) hG.W_2 hcw (by omega)
    have cft := c_fts (d := 54) (σ := σ) (o := 2) (T := T) hG.W_2 hcw (by omega)
    have csp := c_stopped (d := 55) (σ := σ) (o := 2) (T := T) hG.W_2 hcw (by omega)
    have cfw := c_firstWrong (d := 55) (σ := σ) (T := T) hG hcw (by omega) hc.2.2.2.2.1 hB
    rw [h1] at cst cps ccs cjt chr cft csp cfw
    refine k_X5_told_0 hP a hG ⟨ha, fun z => ?_, fun z => by subst z; rw [show tR w H B 0 = w 0 0 from rfl, c00] at hQ; exact hQ, fun z => by subst z; rw [show tR w H B 1 = w 0 1 from rfl, c01] at hQ; exact hQ, fun z => by subst z; rw [show tR w H B 2 = w 0 3 from rfl, c03] at hQ; exact hQ, fun z => by subst z; rw [show tR w H B 3 = w 0 7 from rfl, c07] at hQ; exact hQ, fun z => by subst z; rw [show tR w H B 4 = bro w (w 0 3) - used w from rfl] at hQ; exact ⟨_, cst, hQ⟩, fun z => by subst z; rw [show tR w H B 5 = (bs (pP1 w) (w 0 2).toNat : Int) from rfl] at hQ; exact ⟨_, cps, hQ⟩, fun z => by subst z; rw [show tR w H B 6 = (bs (pC1 w) (w 0 2).toNat : Int) from rfl] at hQ; exact ⟨_, ccs, hQ⟩, fun z => by subst z; rw [show tR w H B 7 = w 0 4 from rfl, c04] at hQ; exact hQ, fun z => by subst z; rw [show tR w H B 8 = w 0 5 from rfl, c05] at hQ; exact hQ, fun z => by subst z; rw [show tR w H B 9 = w 0 6 from rfl, c06] at hQ; exact hQ, fun z => by subst z; rw [show tR w H B 10 = jts w from rfl] at hQ; exact ⟨_, cjt, hQ⟩, fun z => by subst z; rw [show tR w H B 11 = hrm w from rfl] at hQ; exact ⟨_, chr, hQ⟩, fun z => by subst z; rw [show tR w H B 12 = fts w from rfl] at hQ; exact ⟨_, cft, hQ⟩, fun z => absurd z h13, fun z => absurd z h14, fun z => absurd z h15, fun z => by subst z; rw [show tR w H B 16 = stp w from rfl] at hQ; exact ⟨_, csp, hQ⟩, fun z => by subst z; rw [show tR w H B 17 = (B.1 : Int) from rfl] at hQ; rw [hc.2.2.2.2.1.1]; exact hQ, fun z => by subst z; rw [show tR w H B 18 = fwF w B B.1 0 from rfl] at hQ; exact ⟨_, cfw, hQ⟩, fun z => by subst z; rw [show tR w H B 19 = (H.1 : Int) from rfl] at hQ; rw [hc.2.2.2.1.1]; exact hQ⟩
    rw [show tR w H B a = -1000000002 by
      unfold tR
      repeat rw [if_neg (by omega)]] at hQ
    exact hQ
  · have m1 := hm.1
    have hmw : wOK T (mv σ1 0) := by rw [m1]; exact hw
    have k00 : w 0 0 = σ1 167 0 := by rw [← m1]; exact m_st
    have k01 : w 0 1 = σ1 167 1 := by rw [← m1]; exact m_ly
    have k03 : w 0 3 = σ1 167 2 := by rw [← m1]; exact m_tm
    have k04 : w 0 4 = σ1 167 4 := by rw [← m1]; exact m_ag
    have k05 : w 0 5 = σ1 167 5 := by rw [← m1]; exact m_hv
    have k06 : w 0 6 = σ1 167 6 := by rw [← m1]; exact m_lg
    have k07 : w 0 7 = σ1 167 3 := by rw [← m1]; exact m_nt
    have mbr := c_mbro (d := 58) (σ := σ1) (r := 0) (T := T) (t := w 0 3) hG hmw (by decide) (rO (by omega) (by omega))
    have mus := c_mused (d := 57) (σ := σ1) (r := 0) (T := T) hG hmw (by omega) (by decide)
    have mps := c_mpset (d := 57) (σ := σ1) (T := T) hG hmw (by omega)
    have mcs := c_mcset (d := 55) (σ := σ1) (T := T) hG hmw (by omega)
    have mjt := c_mjoints (d := 55) (σ := σ1) (T := T) hG hmw (by omega)
    have mhr : Ca 59 yX6_harm [vR (some 166), vI 0, vI 0] g σ1 [vI (hrm (mv σ1 0))] g σ1 := c_mharm (d := 55) (s := false) (σ := σ1) (r := 0) (T := T) hG hmw (by omega) (by decide)
    have msp : Ca 59 yX6_harm [vR (some 166), vI 0, vI 1] g σ1 [vI (stp (mv σ1 0))] g σ1 := c_mharm (d := 55) (s := true) (σ := σ1) (r := 0) (T := T) hG hmw (by omega) (by decide)
    have mft := c_mfts (d := 54) (σ := σ1) (T := T) hG hmw (by omega)
    have mfw := c_wrong (d := 55) (σ := σ1) (T := T) hG hmw (by omega) hm.2.2.2.1 hB
    rw [m1] at mbr mus mps mcs mjt mhr msp mft mfw
    refine k_X6_told_0 hP a hG ⟨ha, fun z => ?_, fun z => by subst z; rw [show tR w H B 0 = w 0 0 from rfl, k00] at hQ; exact hQ, fun z => by subst z; rw [show tR w H B 1 = w 0 1 from rfl, k01] at hQ; exact hQ, fun z => by subst z; rw [show tR w H B 2 = w 0 3 from rfl, k03] at hQ; exact hQ, fun z => by subst z; rw [show tR w H B 3 = w 0 7 from rfl, k07] at hQ; exact hQ, fun z => by subst z; rw [show tR w H B 4 = bro w (w 0 3) - used w from rfl] at hQ; rw [← k03]; exact ⟨_, mbr, _, mus, hQ⟩, fun z => by subst z; rw [show tR w H B 5 = (bs (pP1 w) (w 0 2).toNat : Int) from rfl] at hQ; exact ⟨_, mps, hQ⟩, fun z => by subst z; rw [show tR w H B 6 = (bs (pC1 w) (w 0 2).toNat : Int) from rfl] at hQ; exact ⟨_, mcs, hQ⟩, fun z => by subst z; rw [show tR w H B 7 = w 0 4 from rfl, k04] at hQ; exact hQ, fun z => by subst z; rw [show tR w H B 8 = w 0 5 from rfl, k05] at hQ; exact hQ, fun z => by subst z; rw [show tR w H B 9 = w 0 6 from rfl, k06] at hQ; exact hQ, fun z => by subst z; rw [show tR w H B 10 = jts w from rfl] at hQ; exact ⟨_, mjt, hQ⟩, fun z => by subst z; rw [show tR w H B 11 = hrm w from rfl] at hQ; exact ⟨_, mhr, hQ⟩, fun z => by subst z; rw [show tR w H B 12 = fts w from rfl] at hQ; exact ⟨_, mft, hQ⟩, fun z => absurd z h13, fun z => absurd z h14, fun z => absurd z h15, fun z => by subst z; rw [show tR w H B 16 = stp w from rfl] at hQ; exact ⟨_, msp, hQ⟩, fun z => by subst z; rw [show tR w H B 17 = (B.1 : Int) from rfl] at hQ; rw [hm.2.2.2.1.1]; exact hQ, fun z => by subst z; rw [show tR w H B 18 = fwF w B B.1 0 from rfl] at hQ; exact ⟨_, mfw, hQ⟩, fun z => by subst z; rw [show tR w H B 19 = (H.1 : Int) from rfl] at hQ; rw [hm.2.2.1.1]; exact hQ⟩
    rw [show tR w H B a = -1000000002 by
      unfold tR
      repeat rw [if_neg (by omega)]] at hQ
    exact hQ
end S5
