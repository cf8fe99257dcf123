/-! Both sides of a call: deeds, three -/
section S9
variable {g : pG} {T : Int}
theorem bnd_ok {w : Wl} (hw : wOK T w) {k : Nat} {v : Int} (hk : (k = 0 ∧ 1 ≤ v ∧ v ≤ 40) ∨ ((k = 1 ∨ k = 2) ∧ 0 ≤ v ∧ v ≤ 9)) : wOK T (up2 w 0 (4 + k) v) := by
  obtain ⟨h1, h2, h3, h4, h5, h6, h7, h8, h9, h10, h11⟩ := hw
  rcases hk with ⟨rfl, hv⟩ | ⟨rfl | rfl, hv⟩
  · exact ⟨h1, h2, h3, h4, hv, h6, h7, h8, h9, h10, h11⟩
  · exact ⟨h1, h2, h3, h4, h5, hv, h7, h8, h9, h10, h11⟩
  · exact ⟨h1, h2, h3, h4, h5, h6, hv, h8, h9, h10, h11⟩
theorem bnd_S {w : Wl} (hs : wS w) {k : Nat} (hk : k ≤ 2) {v : Int} : wS (up2 w 0 (4 + k) v) := by
  rcases (show k = 0 ∨ k = 1 ∨ k = 2 by omega) with rfl | rfl | rfl <;> exact hs
theorem pc_bound {a b : Int} (hG : gAll g) (h200 : 10000 ≤ T) (hT : T ≤ 80000) (ha : iR a) (hb : iR b) : PC g T (T + 60) yX5_bound yX6_bound [vI a, vI b] := by
  intro σ w H s B I hok hc hM
  obtain ⟨⟨hw, hs⟩, hH, hsd, hB, hI⟩ := id hok
  have h1 := hc.1
  have hcw : wOK T (cv σ 2) := by rw [h1]; exact hw
  have wa := c_within (d := 58) (g := g) (σ := σ) (a := a) (b := 0) (c := 2) ha (by decide) (by decide)
  have hag := hw.ag
  have hhv := hw.hv
  have hlg := hw.lg
  by_cases hk : (a = 0 ∧ 1 ≤ b ∧ b ≤ 40) ∨ ((a = 1 ∨ a = 2) ∧ 0 ≤ b ∧ b ≤ 9)
  · obtain ⟨k, rfl⟩ := Int.eq_ofNat_of_zero_le (show 0 ≤ a by omega)
    have hk2 : k ≤ 2 := by omega
    have hkk : (k = 0 ∧ 1 ≤ b ∧ b ≤ 40) ∨ ((k = 1 ∨ k = 2) ∧ 0 ≤ b ∧ b ≤ 9) := by omega
    have ya : ¬ b2 (0 ≤ (k : Int) ∧ (k : Int) ≤ 2) = 0 := by rw [b2_t (by omega)]; decide
    have hr : iR (w 0 (4 + k)) := by
      rcases (show k = 0 ∨ k = 1 ∨ k = 2 by omega) with rfl | rfl | rfl
      · exact rO (by show -2000000000 ≤ w 0 4; omega) (by show w 0 4 ≤ _; omega)
      · exact rO (by show -2000000000 ≤ w 0 5; omega) (by show w 0 5 ≤ _; omega)
      · exact rO (by show -2000000000 ≤ w 0 6; omega) (by show w 0 6 ≤ _; omega)
    refine pc_mk (w 0 (4 + k)) hM hr (hok.deed (by omega) ((bnd_ok hw hkk).le (by omega)) (bnd_S hs hk2)) ?_ (fun σ1 hm => ?_)
    · obtain ⟨t, d1, d2, d3, d4⟩ := c_bef (d := 55) hG hc hH.1
      have sb := c_swapBound (d := 58) (σ := t) (o := 2) (k := k) (v := b) hk2 hG.W_2
      have e4 : t 2 (4 + k) = w 0 (4 + k) := by rw [← d2.1]; exact (cv0 (by omega)).symm
      rw [e4] at sb
      refine ⟨up2 t 2 (4 + k) b, ca_in cd_X5_bound bd_X5_bound rfl (by decide) (Nat.le_of_ble_eq_true rfl) (fun Q P hP hQ => ?_), d2.wall d3 Fr.up0 ?_, (bef_frC d4).tr (fun x hx => up2_ne (by omega))⟩
      · have wb9 := c_within (d := 58) (g := g) (σ := σ) (a := b) (b := 0) (c := 9) hb (by decide) (by decide)
        have wb40 := c_within (d := 58) (g := g) (σ := σ) (a := b) (b := 1) (c := 40) hb (by decide) (by decide)
        refine k_X5_bound_0 hP _ _ hG ⟨ha, fun z => ⟨_, wa, b2_iR _, fun y => absurd y ya, fun _ => ⟨_, wb9, b2_iR _, fun _ => ⟨t, d1, _, _, sb, hQ⟩, fun y => absurd (by rw [b2_t (by omega)]; decide) y⟩⟩, fun z => ⟨_, wa, b2_iR _, fun y => absurd y ya, fun _ => ⟨_, wb40, b2_iR _, fun _ => ⟨t, d1, _, _, sb, hQ⟩, fun y => absurd (by rw [b2_t (by omega)]; decide) y⟩⟩⟩
      · rw [cv_up0 (by omega), d2.1]
    · obtain ⟨t, d1, d2, d3, d4⟩ := c_minds (d := 57) hG hm hH.1
      have m12 := c_in (d := 58) (g := g) (σ := σ1) (a := (k : Int)) (b := 1) (c := 2) (jRi ha) (by decide) (by decide)
      have m9 := c_in (d := 58) (g := g) (σ := σ1) (a := b) (b := 0) (c := 9) (jRi hb) (by decide) (by decide)
      have m40 := c_in (d := 58) (g := g) (σ := σ1) (a := b) (b := 1) (c := 40) (jRi hb) (by decide) (by decide)
      have en : ((4 : Int) + (k : Int)).toNat = 4 + k := by omega
      have e4 : t 167 (4 + k) = w 0 (4 + k) := by
        rw [← d2.1]
        rcases (show k = 0 ∨ k = 1 ∨ k = 2 by omega) with rfl | rfl | rfl
        · exact (m_ag (σ := t) (r := 0)).symm
        · exact (m_hv (σ := t) (r := 0)).symm
        · exact (m_lg (σ := t) (r := 0)).symm
      refine ⟨up2 t 167 (4 + k) b, ca_in cd_X6_bound bd_X6_bound rfl (by decide) (Nat.le_of_ble_eq_true rfl) (fun Q P hP hQ => ?_), d2.wall (Fm.up (by omega)) ?_, d3.tr (fun x hx => up2_ne (by omega))⟩
      · refine k_X6_bound_0 hP _ _ hG ?_
        rw [en]
        refine ⟨ha, fun z => ⟨ha, _, m12, b2_iR _, fun y => absurd y (by rw [b2_t (by omega)]; decide), fun _ => ⟨hb, _, m9, b2_iR _, fun y => absurd y (by rw [b2_t (by omega)]; decide), fun _ => ⟨t, d1, ⟨by omega, by omega⟩, ⟨by omega, by omega⟩, ?_⟩⟩⟩, fun z => ⟨hb, _, m40, b2_iR _, fun _ => ⟨t, d1, ⟨by omega, by omega⟩, ⟨by omega, by omega⟩, ?_⟩, fun y => absurd (by rw [b2_t (by omega)]; decide) y⟩⟩
        · rw [e4]; exact hQ
        · rw [e4]; exact hQ
      · have u := mv_up0 (σ := t) (r := 0) (i := 4 + k) (j := 4 + k) (v := b) (by omega)
        rw [d2.1, Nat.zero_add] at u
        exact u
  · refine pc_mk (-1000000002) hM (by decide) (hok.le (by omega)) ⟨σ, ca_in cd_X5_bound bd_X5_bound rfl (by decide) (Nat.le_of_ble_eq_true rfl) (fun Q P hP hQ => ?_), hc, FrC.rf⟩ (fun σ1 hm => ⟨σ1, ca_in cd_X6_bound bd_X6_bound rfl (by decide) (Nat.le_of_ble_eq_true rfl) (fun Q P hP hQ => ?_), hm, FrM.rf⟩)
    · have wb9 := c_within (d := 58) (g := g) (σ := σ) (a := b) (b := 0) (c := 9) hb (by decide) (by decide)
      have wb40 := c_within (d := 58) (g := g) (σ := σ) (a := b) (b := 1) (c := 40) hb (by decide) (by decide)
      refine k_X5_bound_0 hP _ _ hG ⟨ha, fun z => ⟨_, wa, b2_iR _, fun _ => hQ, fun y => ⟨_, wb9, b2_iR _, fun x => ?_, fun _ => hQ⟩⟩, fun z => ⟨_, wa, b2_iR _, fun _ => hQ, fun y => ⟨_, wb40, b2_iR _, fun x => ?_, fun _ => hQ⟩⟩⟩
      · have y1 : 0 ≤ a ∧ a ≤ 2 := b2_1 y
        have x1 : 0 ≤ b ∧ b ≤ 9 := b2_1 x
        exact absurd (by omega) hk
      · have y1 : 0 ≤ a ∧ a ≤ 2 := b2_1 y
        have x1 : 1 ≤ b ∧ b ≤ 40 := b2_1 x
        exact absurd (by omega) hk
    · have m12 := c_in (d := 58) (g := g) (σ := σ1) (a := a) (b := 1) (c := 2) (jRi ha) (by decide) (by decide)
      have m9 := c_in (d := 58) (g := g) (σ := σ1) (a := b) (b := 0) (c := 9) (jRi hb) (by decide) (by decide)
      have m40 := c_in (d := 58) (g := g) (σ := σ1) (a := b) (b := 1) (c := 40) (jRi hb) (by decide) (by decide)
      refine k_X6_bound_0 hP _ _ hG ⟨ha, fun z => ⟨ha, _, m12, b2_iR _, fun _ => hQ, fun y => ⟨hb, _, m9, b2_iR _, fun _ => hQ, fun x => ?_⟩⟩, fun z => ⟨hb, _, m40, b2_iR _, fun x => ?_, fun _ => hQ⟩⟩
      · have y1 : 1 ≤ a ∧ a ≤ 2 := b2_1 y
        have x1 : 0 ≤ b ∧ b ≤ 9 := b2_1 x
        exact absurd (by omega) hk
      · have x1 : 1 ≤ b ∧ b ≤ 40 := b2_1 x
        exact absurd (by omega) hk
theorem pc_pour {a : Int} (hG : gAll g) (h200 : 10000 ≤ T) (hT : T ≤ 80000) (ha : iR a) : PC g T (T + 60) yX5_pour yX6_pour [vI a] := by
  intro σ w H s B I hok hc hM
  obtain ⟨⟨hw, hs⟩, hH, hsd, hB, hI⟩ := id hok
  have h1 := hc.1
  have hcw : wOK T (cv σ 2) := by rw [h1]; exact hw
  have hcl := hw.cells
  have e2 : σ 2 2 = w 0 2 := by rw [← h1]; exact (cv0 (by decide)).symm
  have isC := c_isCell (d := 58) (σ := σ) (o := 2) (T := T) (c := a) hG.W_2 hcw ha
  rw [e2] at isC
  have isM : ∀ σ1, MI σ1 w H s B I → Ca 59 yX6_isCell [vR (some 166), vI a] g σ1 [vI (b2 (0 ≤ a ∧ a < w 0 2))] g σ1 := fun σ1 hm => by
    have := c_misCell (d := 57) (σ := σ1) (T := T) (c := a) hG (by rw [hm.1]; exact hw) ha
    rw [hm.1] at this
    exact this
  by_cases hina : 0 ≤ a ∧ a < w 0 2
  · have ya : ¬ b2 (0 ≤ a ∧ a < w 0 2) = 0 := by rw [b2_t hina]; decide
    obtain ⟨c, rfl⟩ := Int.eq_ofNat_of_zero_le hina.1
    have hc9 : c < 9 := by omega
    have hst := c_stt (d := 56) (σ := σ) (o := 2) (T := T) (c := c) hG.W_2 hcw (by omega) hc9
    rw [h1] at hst
    have hsb := stt_bd hw (by omega) c
    have hbg : ∀ σ1, MI σ1 w H s B I → Ca 59 yX6_beginOf [vR (some 166), vI 0, vI (c : Int)] g σ1 [vI (stt w c)] g σ1 := fun σ1 hm => by
      have := c_mbeg (d := 56) (σ := σ1) (r := 0) (T := T) (c := c) hG (by rw [hm.1]; exact hw) (by omega) (by decide) (by rw [hm.1]; exact hina.2)
      rw [hm.1] at this
      exact this
    by_cases hq : stt w c = -1
    · refine pc_mk (-1000000003) hM (by decide) (hok.le (by omega)) ⟨σ, ca_in cd_X5_pour bd_X5_pour rfl (by decide) (Nat.le_of_ble_eq_true rfl) (fun Q P hP hQ => ?_), hc, FrC.rf⟩ (fun σ1 hm => ⟨σ1, ca_in cd_X6_pour bd_X6_pour rfl (by decide) (Nat.le_of_ble_eq_true rfl) (fun Q P hP hQ => ?_), hm, FrM.rf⟩)
      · exact k_X5_pour_0 hP _ hG ⟨_, isC, b2_iR _, fun _ => ⟨_, hst, rO (by omega) (by omega), fun z => absurd hq z, fun _ => hQ⟩, fun z => absurd ya z⟩
      · exact k_X6_pour_0 hP _ hG ⟨_, isM σ1 hm, b2_iR _, fun _ => ⟨_, hbg σ1 hm, rO (by omega) (by omega), fun z => absurd hq z, fun _ => hQ⟩, fun z => absurd ya z⟩
    · have hfo := fil_ok hw (by omega) hc9
      have hhb := hrm_bd hfo
      refine pc_mk (hrm (fil w c)) hM (rO (by omega) (by omega)) (hok.deed (by omega) (hfo.le (by omega)) (fil_wS hs)) ?_ (fun σ1 hm => ?_)
      · obtain ⟨t, d1, d2, d3, d4⟩ := c_bef (d := 55) hG hc hH.1
        obtain ⟨t2, f1, f2, f3⟩ := c_fill (d := 55) (σ := t) (o := 2) (T := T) (c := c) hG.W_2 (by rw [d2.1]; exact hw) (by omega) hc9
        rw [d2.1] at f2
        have hh := c_harm (d := 55) (σ := t2) (o := 2) (T := T + 3) hG.W_2 (by rw [f2]; exact hfo) (by omega)
        rw [f2] at hh
        exact ⟨t2, ca_in cd_X5_pour bd_X5_pour rfl (by decide) (Nat.le_of_ble_eq_true rfl) (fun Q P hP hQ => k_X5_pour_0 hP _ hG ⟨_, isC, b2_iR _, fun _ => ⟨_, hst, rO (by omega) (by omega), fun _ => ⟨t, d1, t2, f1, _, hh, hQ⟩, fun z => absurd hq z⟩, fun z => absurd ya z⟩), d2.wall d3 f3 f2, (bef_frC d4).tr (f3.frC (by decide))⟩
      · obtain ⟨t, d1, d2, d3, d4⟩ := c_minds (d := 57) hG hm hH.1
        obtain ⟨t2, f1, f2, f3⟩ := c_mpours (d := 55) (σ := t) (r := 0) (T := T) (c := c) hG (by rw [d2.1]; exact hw) (by omega) (by decide) (by rw [d2.1]; exact hina.2)
        rw [d2.1] at f1 f2
        have hh : Ca 59 yX6_harm [vR (some 166), vI 0, vI 0] g t2 [vI (hrm (fil w c))] g t2 := by
          have := c_mharm (d := 55) (s := false) (σ := t2) (r := 0) (T := T + 3) hG (by rw [f2]; exact hfo) (by omega) (by decide)
          rw [f2] at this
          exact this
        exact ⟨t2, ca_in cd_X6_pour bd_X6_pour rfl (by decide) (Nat.le_of_ble_eq_true rfl) (fun Q P hP hQ => k_X6_pour_0 hP _ hG ⟨_, isM σ1 hm, b2_iR _, fun _ => ⟨_, hbg σ1 hm, rO (by omega) (by omega), fun _ => ⟨t, d1, _, t2, f1, b2_iR _, fun z => absurd z (by rw [b2_t hq]; decide), fun _ => ⟨_, hh, hQ⟩⟩, fun z => absurd hq z⟩, fun z => absurd ya z⟩), d2.wall f3 f2, d3.tr f3.frM⟩
  · have na : b2 (0 ≤ a ∧ a < w 0 2) = 0 := b2_f hina
    refine pc_mk (-1000000001) hM (by decide) (hok.le (by omega)) ⟨σ, ca_in cd_X5_pour bd_X5_pour rfl (by decide) (Nat.le_of_ble_eq_true rfl) (fun Q P hP hQ => ?_), hc, FrC.rf⟩ (fun σ1 hm => ⟨σ1, ca_in cd_X6_pour bd_X6_pour rfl (by decide) (Nat.le_of_ble_eq_true rfl) (fun Q P hP hQ => ?_), hm, FrM.rf⟩)
    · exact k_X5_pour_0 hP _ hG ⟨_, isC, b2_iR _, fun z => absurd na z, fun _ => hQ⟩
    · exact k_X6_pour_0 hP _ hG ⟨_, isM σ1 hm, b2_iR _, fun z => absurd na z, fun _ => hQ⟩
theorem tmU_ok2 {w : Wl} (hw : wOK T w) {n : Int} (hn : 0 ≤ n) (hT : w 0 3 + n ≤ T) : wOK T (tmU w n) := by
  obtain ⟨h1, h2, h3, h4, h5, h6, h7, h8, h9, h10, h11⟩ := hw
  refine ⟨h1, h2, h3, ⟨show 0 ≤ w 0 3 + n by omega, hT⟩, h5, h6, h7, h8, h9, h10, fun c hc => ?_⟩
  have h := h11 c hc
  have e : tmU w n 0 3 = w 0 3 + n := rfl
  have e1 : tmU w n 1 c = w 1 c := rfl
  have e2 : tmU w n 2 c = w 2 c := rfl
  have e3 : tmU w n 3 c = w 3 c := rfl
  have e4 : tmU w n 0 2 = w 0 2 := rfl
  rw [e, e1, e2, e3, e4]
  omega
theorem pc_rest {a : Int} (hG : gAll g) (h200 : 10000 ≤ T) (hT : T ≤ 80000) (ha : iR a) : PC g T (T + 60) yX5_rest yX6_rest [vI a] := by
  intro σ w H s B I hok hc hM
  obtain ⟨⟨hw, hs⟩, hH, hsd, hB, hI⟩ := id hok
  have h1 := hc.1
  have hcw : wOK T (cv σ 2) := by rw [h1]; exact hw
  have htm := hw.tm
  have wa := c_within (d := 58) (g := g) (σ := σ) (a := a) (b := 1) (c := 40) ha (by decide) (by decide)
  have ma := fun σ => c_in (d := 58) (g := g) (σ := σ) (a := a) (b := 1) (c := 40) (jRi ha) (by decide) (by decide)
  have e3 : σ 2 3 = w 0 3 := by rw [← h1]; exact (cv0 (by decide)).symm
  have m3 : ∀ σ1, MI σ1 w H s B I → σ1 167 2 = w 0 3 := fun σ1 hm => by rw [← hm.1]; exact (m_tm (σ := σ1) (r := 0)).symm
  by_cases hina : 1 ≤ a ∧ a ≤ 40
  · have ya : ¬ b2 (1 ≤ a ∧ a ≤ 40) = 0 := by rw [b2_t hina]; decide
    by_cases hq : w 0 3 + a ≤ 9999
    · refine pc_mk (w 0 3 + a) hM (rO (by omega) (by omega)) (hok.deed (by omega) ((tmU_ok2 (n := a) hw (by omega) (by omega)).le (by omega)) (tmU_S hs)) ?_ (fun σ1 hm => ?_)
      · obtain ⟨t, d1, d2, d3, d4⟩ := c_bef (d := 55) hG hc hH.1
        have t3 : t 2 3 = w 0 3 := by rw [← d2.1]; exact (cv0 (by decide)).symm
        have t33 : (up2 t 2 3 (w 0 3 + a)) 2 3 = w 0 3 + a := by simp [up2]
        refine ⟨up2 t 2 3 (w 0 3 + a), ca_in cd_X5_rest bd_X5_rest rfl (by decide) (Nat.le_of_ble_eq_true rfl) (fun Q P hP hQ => ?_), d2.wall d3 Fr.up0 ?_, (bef_frC d4).tr (fun x hx => up2_ne (by omega))⟩
        · refine k_X5_rest_0 hP _ hG ⟨_, wa, b2_iR _, fun _ => ?_, fun z => absurd ya z⟩
          rw [e3]
          refine ⟨rO (by omega) (by omega), fun _ => ⟨t, d1, ?_⟩, fun z => absurd hq z⟩
          rw [t3, t33]; exact hQ
        · rw [cv_up0 (by decide), d2.1]; rfl
      · obtain ⟨t, d1, d2, d3, d4⟩ := c_minds (d := 57) hG hm hH.1
        have t3 : t 167 2 = w 0 3 := by rw [← d2.1]; exact (m_tm (σ := t) (r := 0)).symm
        have t33 : (up2 t 167 2 (w 0 3 + a)) 167 2 = w 0 3 + a := by simp [up2]
        refine ⟨up2 t 167 2 (w 0 3 + a), ca_in cd_X6_rest bd_X6_rest rfl (by decide) (Nat.le_of_ble_eq_true rfl) (fun Q P hP hQ => ?_), d2.wall (Fm.up (by omega)) ?_, d3.tr (fun x hx => up2_ne (by omega))⟩
        · refine k_X6_rest_0 hP _ hG ⟨ha, _, ma σ1, b2_iR _, fun _ => ?_, fun z => absurd ya z⟩
          rw [m3 σ1 hm]
          refine ⟨rO (by omega) (by omega), fun _ => ⟨t, d1, ?_⟩, fun z => absurd hq z⟩
          rw [t3, t33]; exact hQ
        · have u := mv_up0 (σ := t) (r := 0) (i := 2) (j := 3) (v := w 0 3 + a) (Or.inl ⟨rfl, rfl⟩)
          rw [d2.1] at u
          exact u
    · refine pc_mk (-1000000003) hM (by decide) (hok.le (by omega)) ⟨σ, ca_in cd_X5_rest bd_X5_rest rfl (by decide) (Nat.le_of_ble_eq_true rfl) (fun Q P hP hQ => ?_), hc, FrC.rf⟩ (fun σ1 hm => ⟨σ1, ca_in cd_X6_rest bd_X6_rest rfl (by decide) (Nat.le_of_ble_eq_true rfl) (fun Q P hP hQ => ?_), hm, FrM.rf⟩)
      · refine k_X5_rest_0 hP _ hG ⟨_, wa, b2_iR _, fun _ => ?_, fun z => absurd ya z⟩
        rw [e3]
        exact ⟨rO (by omega) (by omega), fun z => absurd z hq, fun _ => hQ⟩
      · refine k_X6_rest_0 hP _ hG ⟨ha, _, ma σ1, b2_iR _, fun _ => ?_, fun z => absurd ya z⟩
        rw [m3 σ1 hm]
        exact ⟨rO (by omega) (by omega), fun z => absurd z hq, fun _ => hQ⟩
  · have na : b2 (1 ≤ a ∧ a ≤ 40) = 0 := b2_f hina
    refine pc_mk (-1000000002) hM (by decide) (hok.le (by omega)) ⟨σ, ca_in cd_X5_rest bd_X5_rest rfl (by decide) (Nat.le_of_ble_eq_true rfl) (fun Q P hP hQ => ?_), hc, FrC.rf⟩ (fun σ1 hm => ⟨σ1, ca_in cd_X6_rest bd_X6_rest rfl (by decide) (Nat.le_of_ble_eq_true rfl) (fun Q P hP hQ => ?_), hm, FrM.rf⟩)
    · exact k_X5_rest_0 hP _ hG ⟨_, wa, b2_iR _, fun z => absurd na z, fun _ => hQ⟩
    · exact k_X6_rest_0 hP _ hG ⟨ha, _, ma σ1, b2_iR _, fun z => absurd na z, fun _ => hQ⟩
/-- the first cell of the best order can be poured -/
theorem exG_pre : ∀ (n : Nat) (w : Wl) (ch : Nat → Int) (dep : Nat) (b : Bs) (q : Int × Int × (Nat → Int)), exG n w ch dep b = some q → b = some q ∨ ∀ j, j < dep → q.2.2 j = ch j
  | 0, w, ch, dep, b, q, hq => by
    rw [exG] at hq
    cases b with
    | none =>
      have : q = (hrm w, w 0 3, ch) := (Option.some.inj hq).symm
      rw [this]
      exact Or.inr (fun _ _ => rfl)
    | some r =>
      rw [lf_some] at hq
      split at hq
      · have : q = (hrm w, w 0 3, ch) := (Option.some.inj hq).symm
        rw [this]
        exact Or.inr (fun _ _ => rfl)
      · exact Or.inl hq
  | n + 1, w, ch, dep, b, q, hq => by
    rw [exG] at hq
    have key : ∀ k : Nat, ∀ q, fl (fun c b => if stt w c = -1 then b else exG n (fil w c) (c1 ch dep c) (dep + 1) b) b k = some q → b = some q ∨ ∀ j, j < dep → q.2.2 j = ch j := by
      intro k
      induction k with
      | zero => intro q hq; exact Or.inl hq
      | succ k ih =>
        intro q hq
        rw [fl] at hq
        split at hq
        · exact ih q hq
        · rcases exG_pre n _ _ _ _ q hq with h | h
          · exact ih q h
          · refine Or.inr (fun j hj => ?_)
            rw [h j (by omega), c1, if_neg (by omega)]
    exact key _ q hq
theorem bst_first {w : Wl} (hw : wOK T w) {q : Int × Int × (Nat → Int)} (hb : bst w = some q) (hu : 0 < un w) : ∃ c : Nat, q.2.2 0 = (c : Int) ∧ (c : Int) < w 0 2 ∧ ¬ stt w c = -1 := by
  obtain ⟨n, hn⟩ : ∃ n : Nat, (un w).toNat = n + 1 := ⟨(un w).toNat - 1, by omega⟩
  unfold bst at hb
  rw [hn, exG] at hb
  have key : ∀ k : Nat, ∀ q, fl (fun c b => if stt w c = -1 then b else exG n (fil w c) (c1 (fun _ => 0) 0 c) (0 + 1) b) none k = some q → ∃ c : Nat, q.2.2 0 = (c : Int) ∧ (c : Int) < w 0 2 ∧ ¬ stt w c = -1 := by
    intro k
    induction k with
    | zero => intro q hq; exact nomatch hq
    | succ k ih =>
      intro q hq
      rw [fl] at hq
      split at hq
      · exact ih q hq
      · rename_i hst
        rcases exG_pre n _ _ _ _ q hq with h | h
        · exact ih q h
        · refine ⟨k, ?_, (stt_can hst).1.1, hst⟩
          rw [h 0 (by decide), c1, if_pos rfl]
  exact key _ q hb
theorem pc_follow (hG : gAll g) (h200 : 10000 ≤ T) (hT : T ≤ 80000) : PC g T (T + 60) yX5_follow yX6_follow [] := by
  intro σ w H s B I hok hc hM
  obtain ⟨⟨hw, hs⟩, hH, hsd, hB, hI⟩ := id hok
  have h1 := hc.1
  have hcw : wOK T (cv σ 2) := by rw [h1]; exact hw
  have hub := un_bd hw
  have hcl := hw.cells
  obtain ⟨t, a1, a2, a3, a4⟩ := c_plan (d := 45) hG hc hw hs (by omega) (by omega)
  have ft : FrC σ t := fun x hx => a4 x (by omega) (by omega)
  have ca0 := c_cellAt (d := 58) (σ := t) (i := 0) hG.P_14 hw a3 (by decide)
  have fin : ∀ σ1, MI σ1 w H s B I → ∃ u, Ca 59 yX6_finds [vR (some 166)] g σ1 [] g u ∧ mB2 u (un w).toNat (bst w) ∧ Fk σ1 u := fun σ1 hm => by
    have := c_finds (d := 52) (σ := σ1) (T := T) hG (by rw [hm.1]; exact hw) (by omega) (by omega)
    rw [hm.1] at this
    exact this
  by_cases hno : bst w = none ∨ un w = 0
  · have e0 : bC (un w) (bst w) 0 = -1 := by
      rcases hno with h | h
      · rw [h]; rfl
      · cases hb : bst w with
        | none => rfl
        | some q => rw [bC, if_neg (by omega)]
    rw [e0] at ca0
    refine pc_mk (-1000000003) hM (by decide) (hok.le (by omega)) ⟨t, ca_in cd_X5_follow bd_X5_follow rfl (by decide) (Nat.le_of_ble_eq_true rfl) (fun Q P hP hQ => ?_), a2, ft⟩ (fun σ1 hm => ?_)
    · exact k_X5_follow_0 hP hG ⟨t, a1, _, ca0, by decide, fun z => absurd rfl z, fun _ => hQ⟩
    · obtain ⟨u, u1, u2, u3⟩ := fin σ1 hm
      have hlt : ¬ 1 ≤ u 166 8 := by
        cases hb : bst w with
        | none => rw [hb] at u2; have := u2.1; omega
        | some q =>
          rw [hb] at u2
          have := u2.1
          rcases hno with h | h
          · rw [hb] at h; exact nomatch h
          · omega
      have hr := u2.r (by omega)
      exact ⟨u, ca_in cd_X6_follow bd_X6_follow rfl (by decide) (Nat.le_of_ble_eq_true rfl) (fun Q P hP hQ => k_X6_follow_0 hP hG ⟨u, u1, hr.1, fun z => absurd z hlt, fun _ => hQ⟩), hm.fk u3, u3.frM⟩
  · cases hb : bst w with
    | none => exact absurd (Or.inl hb) hno
    | some q =>
      have hu : 0 < un w := by
        have : ¬ un w = 0 := fun z => hno (Or.inr z)
        omega
      obtain ⟨c, hc1, hc2, hc3⟩ := bst_first hw hb hu
      have hc9 : c < 9 := by omega
      have e0 : bC (un w) (bst w) 0 = (c : Int) := by rw [hb, bC, if_pos (by omega)]; exact hc1
      rw [e0] at ca0
      have hfo := fil_ok hw (by omega) hc9
      refine pc_mk (c : Int) hM (rO (by omega) (by omega)) (hok.deed (by omega) (hfo.le (by omega)) (fil_wS (c := c) hs)) ?_ (fun σ1 hm => ?_)
      · obtain ⟨t1, d1, d2, d3, d4⟩ := c_bef (d := 55) hG a2 hH.1
        obtain ⟨t2, f1, f2, f3⟩ := c_fill (d := 55) (σ := t1) (o := 2) (T := T) (c := c) hG.W_2 (by rw [d2.1]; exact hw) (by omega) hc9
        rw [d2.1] at f2
        exact ⟨t2, ca_in cd_X5_follow bd_X5_follow rfl (by decide) (Nat.le_of_ble_eq_true rfl) (fun Q P hP hQ => k_X5_follow_0 hP hG ⟨t, a1, _, ca0, rO (by omega) (by omega), fun _ => ⟨t1, d1, t2, f1, hQ⟩, fun z => absurd (by omega) z⟩), d2.wall d3 f3 f2, (ft.tr (bef_frC d4)).tr (f3.frC (by decide))⟩
      · obtain ⟨u, u1, u2, u3⟩ := fin σ1 hm
        rw [hb] at u2
        have e172 : u 172 0 = (c : Int) := by rw [u2.2.2.2.2.2 0 (by omega)]; exact hc1
        obtain ⟨t1, d1, d2, d3, d4⟩ := c_minds (d := 57) hG (hm.fk u3) hH.1
        obtain ⟨t2, f1, f2, f3⟩ := c_mpours (d := 55) (σ := t1) (r := 0) (T := T) (c := c) hG (by rw [d2.1]; exact hw) (by omega) (by decide) (by rw [d2.1]; exact hc2)
        rw [d2.1] at f1 f2
        refine ⟨t2, ca_in cd_X6_follow bd_X6_follow rfl (by decide) (Nat.le_of_ble_eq_true rfl) (fun Q P hP hQ => k_X6_follow_0 hP hG ⟨u, u1, by rw [u2.1]; exact rO (by omega) (by omega), fun _ => ?_, fun z => absurd (by rw [u2.1]; omega) z⟩), d2.wall f3 f2, (u3.frM.tr d3).tr f3.frM⟩
        rw [e172]
        exact ⟨t1, d1, _, t2, f1, b2_iR _, fun z => absurd z (by rw [b2_t hc3]; decide), fun _ => hQ⟩
end S9
