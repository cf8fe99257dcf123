/-! Both sides of a call: deeds -/
section S7
variable {g : pG} {T : Int}
theorem aOK.deed {T2 : Int} {w w2 : Wl} {H : Hs} {s : Int} {B : Bk} {I : Ig} (h : aOK T w H s B I) (hT : T ≤ T2) (hw : wOK T2 w2) (hs : wS w2) : aOK T2 w2 (psh w H) s B I := by
  obtain ⟨⟨h1, h2⟩, ⟨h3, h4⟩, h5, h6, h7⟩ := h.le hT
  refine ⟨⟨hw, hs⟩, ⟨Nat.min_le_right _ _, fun i hi => ?_⟩, h5, h6, h7⟩
  have hi2 : i < min (H.1 + 1) 20 := hi
  show wOK T2 (if i = 0 then w else H.2 (i - 1)) ∧ wS (if i = 0 then w else H.2 (i - 1))
  split
  · exact ⟨h1, h2⟩
  · exact h4 (i - 1) (by omega)
theorem pcn_le : ∀ x, x < 512 → pcn x ≤ 9 := by decide +kernel
theorem rai_S {w : Wl} {a b : Int} : wS (rai w a b) := fun c hc h _ => absurd (by simp [rai, fW, hc]) h
theorem bef_frC {σ σ2 : pM} (h : ∀ x, x ≠ 1 → (x < 26 ∨ 148 ≤ x) → σ2 x = σ x) : FrC σ σ2 := fun x hx => h x (by omega) (by omega)
theorem pc_build {a b : Int} (hG : gAll g) (h200 : 10000 ≤ T) (hT : T ≤ 80000) (ha : iR a) (hb : iR b) : PC g T (T + 60) yX5_build yX6_build [vI a, vI b] := by
  intro σ w H s B I hok hc hM
  obtain ⟨⟨hw, hs⟩, hH, hsd, hB, hI⟩ := id hok
  have h1 := hc.1
  have hcw : wOK T (cv σ 2) := by rw [h1]; exact hw
  have wa := c_within (d := 58) (g := g) (σ := σ) (a := a) (b := 1) (c := 3) ha (by decide) (by decide)
  have wb := c_within (d := 58) (g := g) (σ := σ) (a := b) (b := 1) (c := 3) hb (by decide) (by decide)
  have ma := fun σ => c_in (d := 58) (g := g) (σ := σ) (a := a) (b := 1) (c := 3) (jRi ha) (by decide) (by decide)
  have mb := fun σ => c_in (d := 58) (g := g) (σ := σ) (a := b) (b := 1) (c := 3) (jRi hb) (by decide) (by decide)
  by_cases hina : 1 ≤ a ∧ a ≤ 3
  · have ya : ¬ b2 (1 ≤ a ∧ a ≤ 3) = 0 := by rw [b2_t hina]; decide
    by_cases hinb : 1 ≤ b ∧ b ≤ 3
    · have yb : ¬ b2 (1 ≤ b ∧ b ≤ 3) = 0 := by rw [b2_t hinb]; decide
      have hcl := hw.cells
      have hpb : (bs (pP1 w) (w 0 2).toNat) < 512 := bs_512 _ (by omega)
      have hcp := c_pcount (d := 56) (σ := σ) (o := 2) (T := T) hG.W_2 hcw (by omega)
      rw [h1] at hcp
      have hpc : pcn (bs (pP1 w) (w 0 2).toNat) ≤ 9 := pcn_le _ hpb
      refine pc_mk (pcn (bs (pP1 w) (w 0 2).toNat) : Int) hM (rO (by omega) (by omega)) (hok.deed (by omega) ((rai_ok hw (by omega) hina hinb).le (by omega)) rai_S) ?_ (fun σ1 hm => ?_)
      · obtain ⟨t, a1, a2, a3, a4⟩ := c_bef (d := 55) hG hc hH.1
        obtain ⟨t2, b1, b2', b3⟩ := c_raise (d := 57) (σ := t) (o := 2) hina hinb hG.W_2
        rw [a2.1] at b2'
        exact ⟨t2, ca_in cd_X5_build bd_X5_build rfl (by decide) (Nat.le_of_ble_eq_true rfl) (fun Q P hP hQ => k_X5_build_0 hP _ _ hG ⟨_, wa, b2_iR _, fun z => absurd z ya, fun _ => ⟨_, wb, b2_iR _, fun _ => ⟨_, hcp, t, a1, t2, b1, hQ⟩, fun z => absurd yb z⟩⟩), a2.wall a3 b3 b2', (bef_frC a4).tr (b3.frC (by decide))⟩
      · have hmp := c_mpset (d := 57) (σ := σ1) (T := T) hG (by rw [hm.1]; exact hw) (by omega)
        rw [hm.1] at hmp
        have hon := c_ones (d := 58) (g := g) (σ := σ1) hpb
        obtain ⟨t, a1, a2, a3, a4⟩ := c_minds (d := 57) hG hm hH.1
        obtain ⟨t2, b1, b2', b3⟩ := c_mbuilds (d := 58) (σ := t) (a := a) (b := b) hG
        rw [a2.1] at b2'
        exact ⟨t2, ca_in cd_X6_build bd_X6_build rfl (by decide) (Nat.le_of_ble_eq_true rfl) (fun Q P hP hQ => k_X6_build_0 hP _ _ hG ⟨ha, _, ma σ1, b2_iR _, fun z => absurd z ya, fun _ => ⟨hb, _, mb σ1, b2_iR _, fun _ => ⟨_, hmp, _, hon, t, a1, t2, b1, hQ⟩, fun z => absurd yb z⟩⟩), a2.wall b3 b2', a3.tr b3.frM⟩
    · have nb : b2 (1 ≤ b ∧ b ≤ 3) = 0 := b2_f hinb
      refine pc_mk (-1000000002) hM (by decide) (hok.le (by omega)) ⟨σ, ca_in cd_X5_build bd_X5_build rfl (by decide) (Nat.le_of_ble_eq_true rfl) (fun Q P hP hQ => ?_), hc, FrC.rf⟩ (fun σ1 hm => ⟨σ1, ca_in cd_X6_build bd_X6_build rfl (by decide) (Nat.le_of_ble_eq_true rfl) (fun Q P hP hQ => ?_), hm, FrM.rf⟩)
      · exact k_X5_build_0 hP _ _ hG ⟨_, wa, b2_iR _, fun z => absurd z ya, fun _ => ⟨_, wb, b2_iR _, fun z => absurd nb z, fun _ => hQ⟩⟩
      · exact k_X6_build_0 hP _ _ hG ⟨ha, _, ma σ1, b2_iR _, fun z => absurd z ya, fun _ => ⟨hb, _, mb σ1, b2_iR _, fun z => absurd nb z, fun _ => hQ⟩⟩
  · have na : b2 (1 ≤ a ∧ a ≤ 3) = 0 := b2_f hina
    refine pc_mk (-1000000002) hM (by decide) (hok.le (by omega)) ⟨σ, ca_in cd_X5_build bd_X5_build rfl (by decide) (Nat.le_of_ble_eq_true rfl) (fun Q P hP hQ => ?_), hc, FrC.rf⟩ (fun σ1 hm => ⟨σ1, ca_in cd_X6_build bd_X6_build rfl (by decide) (Nat.le_of_ble_eq_true rfl) (fun Q P hP hQ => ?_), hm, FrM.rf⟩)
    · exact k_X5_build_0 hP _ _ hG ⟨_, wa, b2_iR _, fun _ => hQ, fun z => absurd na z⟩
    · exact k_X6_build_0 hP _ _ hG ⟨ha, _, ma σ1, b2_iR _, fun _ => hQ, fun z => absurd na z⟩
theorem adT_S {w : Wl} (hs : wS w) {a b : Int} : wS (adT w a b) := hs
theorem pc_truck {a b : Int} (hG : gAll g) (h200 : 10000 ≤ T) (hT : T ≤ 80000) (ha : iR a) (hb : iR b) : PC g T (T + 60) yX5_truck yX6_truck [vI a, vI b] := by
  intro σ w H s B I hok hc hM
  obtain ⟨⟨hw, hs⟩, hH, hsd, hB, hI⟩ := id hok
  have h1 := hc.1
  have hcw : wOK T (cv σ 2) := by rw [h1]; exact hw
  have hnt := hw.nt
  have wa := c_within (d := 58) (g := g) (σ := σ) (a := a) (b := 0) (c := 99) ha (by decide) (by decide)
  have wb := c_within (d := 58) (g := g) (σ := σ) (a := b) (b := 1) (c := 4) hb (by decide) (by decide)
  have ma := fun σ => c_in (d := 58) (g := g) (σ := σ) (a := a) (b := 0) (c := 99) (jRi ha) (by decide) (by decide)
  have mb := fun σ => c_in (d := 58) (g := g) (σ := σ) (a := b) (b := 1) (c := 4) (jRi hb) (by decide) (by decide)
  have e7 : σ 2 7 = w 0 7 := by rw [← h1]; exact (cv0 (by decide)).symm
  have cr := c_hasTruckRoom (d := 58) (σ := σ) (o := 2) (T := T) hG.W_2 hcw
  rw [e7] at cr
  have m7 : ∀ σ1, MI σ1 w H s B I → σ1 167 3 = w 0 7 := fun σ1 hm => by rw [← hm.1]; exact (m_nt (σ := σ1) (r := 0)).symm
  by_cases hina : 0 ≤ a ∧ a ≤ 99
  · have ya : ¬ b2 (0 ≤ a ∧ a ≤ 99) = 0 := by rw [b2_t hina]; decide
    by_cases hinb : 1 ≤ b ∧ b ≤ 4
    · have yb : ¬ b2 (1 ≤ b ∧ b ≤ 4) = 0 := by rw [b2_t hinb]; decide
      by_cases hr : w 0 7 < 9
      · have yr : ¬ b2 (w 0 7 < 9) = 0 := by rw [b2_t hr]; decide
        refine pc_mk (w 0 7) hM (rO (by omega) (by omega)) (hok.deed (by omega) ((adT_ok (a := a) (b := b) hw hr (by omega) (by omega)).le (by omega)) (adT_S hs)) ?_ (fun σ1 hm => ?_)
        · obtain ⟨t, a1, a2, a3, a4⟩ := c_bef (d := 55) hG hc hH.1
          have t7 : t 2 7 = w 0 7 := by rw [← a2.1]; exact (cv0 (by decide)).symm
          obtain ⟨t2, b1, b2', b3⟩ := c_addTruck (d := 57) (σ := t) (o := 2) (T := T) (a := a) (b := b) hG.W_2 (by rw [a2.1]; exact hw) (by omega)
          rw [a2.1] at b2'
          have t27 : t2 2 7 - 1 = w 0 7 := by
            have : t2 2 7 = adT w a b 0 7 := by rw [← b2']; exact (cv0 (by decide)).symm
            rw [this]
            show w 0 7 + 1 - 1 = w 0 7
            omega
          refine ⟨t2, ca_in cd_X5_truck bd_X5_truck rfl (by decide) (Nat.le_of_ble_eq_true rfl) (fun Q P hP hQ => k_X5_truck_0 hP _ _ hG ⟨_, wa, b2_iR _, fun z => absurd z ya, fun _ => ⟨_, wb, b2_iR _, fun _ => ⟨_, cr, b2_iR _, fun _ => ⟨t, a1, t2, b1, ?_⟩, fun z => absurd yr z⟩, fun z => absurd yb z⟩⟩), a2.wall a3 b3 b2', (bef_frC a4).tr (b3.frC (by decide))⟩
          rw [t27]; exact hQ
        · obtain ⟨t, a1, a2, a3, a4⟩ := c_minds (d := 57) hG hm hH.1
          obtain ⟨t2, b1, b2', b3⟩ := c_mcomes (d := 58) (σ := t) (T := T) (a := a) (b := b) hG (by rw [a2.1]; exact hw) (by rw [a2.1]; exact hr)
          rw [a2.1] at b2'
          have t27 : t2 167 3 - 1 = w 0 7 := by
            have : t2 167 3 = adT w a b 0 7 := by rw [← b2']; exact (m_nt (σ := t2) (r := 0)).symm
            rw [this]
            show w 0 7 + 1 - 1 = w 0 7
            omega
          have e3 := m7 σ1 hm
          refine ⟨t2, ca_in cd_X6_truck bd_X6_truck rfl (by decide) (Nat.le_of_ble_eq_true rfl) (fun Q P hP hQ => k_X6_truck_0 hP _ _ hG ⟨ha, _, ma σ1, b2_iR _, fun z => absurd z ya, fun _ => ⟨hb, _, mb σ1, b2_iR _, fun _ => ⟨rO (by omega) (by omega), fun _ => ⟨t, a1, t2, b1, ?_⟩, fun z => absurd (by omega) z⟩, fun z => absurd yb z⟩⟩), a2.wall b3 b2', a3.tr b3.frM⟩
          rw [t27]; exact hQ
      · have nr : b2 (w 0 7 < 9) = 0 := b2_f hr
        refine pc_mk (-1000000004) hM (by decide) (hok.le (by omega)) ⟨σ, ca_in cd_X5_truck bd_X5_truck rfl (by decide) (Nat.le_of_ble_eq_true rfl) (fun Q P hP hQ => ?_), hc, FrC.rf⟩ (fun σ1 hm => ⟨σ1, ca_in cd_X6_truck bd_X6_truck rfl (by decide) (Nat.le_of_ble_eq_true rfl) (fun Q P hP hQ => ?_), hm, FrM.rf⟩)
        · exact k_X5_truck_0 hP _ _ hG ⟨_, wa, b2_iR _, fun z => absurd z ya, fun _ => ⟨_, wb, b2_iR _, fun _ => ⟨_, cr, b2_iR _, fun z => absurd nr z, fun _ => hQ⟩, fun z => absurd yb z⟩⟩
        · have e3 := m7 σ1 hm
          exact k_X6_truck_0 hP _ _ hG ⟨ha, _, ma σ1, b2_iR _, fun z => absurd z ya, fun _ => ⟨hb, _, mb σ1, b2_iR _, fun _ => ⟨rO (by omega) (by omega), fun z => absurd (by omega) z, fun _ => hQ⟩, fun z => absurd yb z⟩⟩
    · have nb : b2 (1 ≤ b ∧ b ≤ 4) = 0 := b2_f hinb
      refine pc_mk (-1000000002) hM (by decide) (hok.le (by omega)) ⟨σ, ca_in cd_X5_truck bd_X5_truck rfl (by decide) (Nat.le_of_ble_eq_true rfl) (fun Q P hP hQ => ?_), hc, FrC.rf⟩ (fun σ1 hm => ⟨σ1, ca_in cd_X6_truck bd_X6_truck rfl (by decide) (Nat.le_of_ble_eq_true rfl) (fun Q P hP hQ => ?_), hm, FrM.rf⟩)
      · exact k_X5_truck_0 hP _ _ hG ⟨_, wa, b2_iR _, fun z => absurd z ya, fun _ => ⟨_, wb, b2_iR _, fun z => absurd nb z, fun _ => hQ⟩⟩
      · exact k_X6_truck_0 hP _ _ hG ⟨ha, _, ma σ1, b2_iR _, fun z => absurd z ya, fun _ => ⟨hb, _, mb σ1, b2_iR _, fun z => absurd nb z, fun _ => hQ⟩⟩
  · have na : b2 (0 ≤ a ∧ a ≤ 99) = 0 := b2_f hina
    refine pc_mk (-1000000002) hM (by decide) (hok.le (by omega)) ⟨σ, ca_in cd_X5_truck bd_X5_truck rfl (by decide) (Nat.le_of_ble_eq_true rfl) (fun Q P hP hQ => ?_), hc, FrC.rf⟩ (fun σ1 hm => ⟨σ1, ca_in cd_X6_truck bd_X6_truck rfl (by decide) (Nat.le_of_ble_eq_true rfl) (fun Q P hP hQ => ?_), hm, FrM.rf⟩)
    · exact k_X5_truck_0 hP _ _ hG ⟨_, wa, b2_iR _, fun _ => hQ, fun z => absurd na z⟩
    · exact k_X6_truck_0 hP _ _ hG ⟨ha, _, ma σ1, b2_iR _, fun _ => hQ, fun z => absurd na z⟩
theorem pc_late {a b : Int} (hG : gAll g) (h200 : 10000 ≤ T) (hT : T ≤ 80000) (ha : iR a) (hb : iR b) : PC g T (T + 60) yX5_late yX6_late [vI a, vI b] := by
  intro σ w H s B I hok hc hM
  obtain ⟨⟨hw, hs⟩, hH, hsd, hB, hI⟩ := id hok
  have h1 := hc.1
  have hcw : wOK T (cv σ 2) := by rw [h1]; exact hw
  have hnt := hw.nt
  have htm := hw.tm
  have e7 : σ 2 7 = w 0 7 := by rw [← h1]; exact (cv0 (by decide)).symm
  have isC := c_isTruck (d := 58) (σ := σ) (o := 2) (T := T) (c := a) hG.W_2 hcw ha
  rw [e7] at isC
  have isM : ∀ σ1, MI σ1 w H s B I → Ca 59 yX6_isTruck [vR (some 166), vI a] g σ1 [vI (b2 (0 ≤ a ∧ a < w 0 7))] g σ1 := fun σ1 hm => by
    have := c_misTruck (d := 57) (σ := σ1) (T := T) (c := a) hG (by rw [hm.1]; exact hw) ha
    rw [hm.1] at this
    exact this
  by_cases hina : 0 ≤ a ∧ a < w 0 7
  · have ya : ¬ b2 (0 ≤ a ∧ a < w 0 7) = 0 := by rw [b2_t hina]; decide
    obtain ⟨k, rfl⟩ := Int.eq_ofNat_of_zero_le hina.1
    have hk9 : k < 9 := by omega
    have htr := hw.tr hk9
    have x6 : σ 6 k = w 4 k := by rw [← h1]; exact (cv4 (σ := σ) (o := 2) hk9).symm
    have m6 : ∀ σ1, MI σ1 w H s B I → σ1 167 (7 + k) = w 4 k := fun σ1 hm => by rw [← hm.1, m_tt hk9, Nat.zero_add]
    have wb := c_within (d := 58) (g := g) (σ := σ) (a := b) (b := -99) (c := 99) hb (by decide) (by decide)
    have mb := fun σ => c_in (d := 58) (g := g) (σ := σ) (a := b) (b := -99) (c := 99) (jRi hb) (by decide) (by decide)
    have en : ((7 : Int) + (k : Int)).toNat = 7 + k := by omega
    by_cases hinb : -99 ≤ b ∧ b ≤ 99
    · have yb : ¬ b2 (-99 ≤ b ∧ b ≤ 99) = 0 := by rw [b2_t hinb]; decide
      have wt := c_within (d := 58) (g := g) (σ := σ) (a := w 4 k + b) (b := 0) (c := 99) (rO (by omega) (by omega)) (by decide) (by decide)
      have mt := fun σ => c_in (d := 58) (g := g) (σ := σ) (a := w 4 k + b) (b := 0) (c := 99) (jRi (rO (by omega) (by omega))) (by decide) (by decide)
      by_cases hint : 0 ≤ w 4 k + b ∧ w 4 k + b ≤ 99
      · have yt : ¬ b2 (0 ≤ w 4 k + b ∧ w 4 k + b ≤ 99) = 0 := by rw [b2_t hint]; decide
        -- class: on trial
        obtain ⟨t1, a1, a2, a3⟩ := c_copyFrom (d := 56) (σ := σ) (o := 8) (a := 2) hG.W_8 hG.W_2 (by decide)
        rw [h1] at a2
        have e87 : t1 8 7 = w 0 7 := by rw [← a2]; exact (cv0 (by decide)).symm
        obtain ⟨t2, b1, b2', b3⟩ := c_delay (d := 56) (σ := t1) (o := 8) (T := T) (k := k) (n := b) hG.W_8 (by rw [a2]; exact hw) (by rw [e87]; exact hina.2)
        rw [a2] at b2'
        have cvt : cv t2 8 = dlU w k b := b2'
        have hwt : wOK T (dlU w k b) := dly_ok hw hk9 (by omega)
        have hst := c_stock (d := 55) (σ := t2) (o := 8) (T := T) hG.W_8 (by rw [cvt]; exact hwt) (by omega)
        rw [cvt, show used (dlU w k b) = used w from rfl, show dlU w k b 0 3 = w 0 3 from rfl] at hst
        have hbb := bro_bd hwt (w 0 3)
        have hub := used_bd hw
        have sil : Ca 59 yX5_stockIfLate [vR (some 1), vI (k : Int), vI b] g σ [vI (bro (dlU w k b) (w 0 3) - used w)] g t2 := ca_in cd_X5_stockIfLate bd_X5_stockIfLate rfl (by decide) (Nat.le_of_ble_eq_true rfl) (fun Q P hP hQ => k_X5_stockIfLate_0 hP _ _ hG ⟨t1, a1, t2, b1, _, hst, hQ⟩)
        have all : ∀ x, (x < 8 ∨ 13 < x) → t2 x = σ x := fun x hx => by rw [b3 x (by omega), a3 x (by omega)]
        have hct : CI t2 w H s B I := hc.co (fun x hx => all x (by omega))
        have fct : FrC σ t2 := fun x hx => all x (by omega)
        -- model: on the saved row
        have mod : ∀ σ1, MI σ1 w H s B I → ∃ u, Ca 59 yX6_copy [vR (some 166), vI 0, vI 104] g σ1 [] g u ∧ u 167 (111 + k) = w 4 k ∧ MI (up2 u 167 (111 + k) (w 4 k + b)) w H s B I ∧ FrM σ1 (up2 u 167 (111 + k) (w 4 k + b)) ∧ (up2 u 167 (111 + k) (w 4 k + b)) 167 2 = w 0 3 ∧ Ca 59 yX6_brought [vR (some 166), vI 104, vI (w 0 3)] g (up2 u 167 (111 + k) (w 4 k + b)) [vI (bro (dlU w k b) (w 0 3))] g (up2 u 167 (111 + k) (w 4 k + b)) ∧ Ca 59 yX6_used [vR (some 166), vI 0] g (up2 u 167 (111 + k) (w 4 k + b)) [vI (used w)] g (up2 u 167 (111 + k) (w 4 k + b)) := by
          intro σ1 hm
          obtain ⟨u, u1, u2, u3, -⟩ := c_mcopy (d := 58) (σ := σ1) (p := 0) (q := 104) hG (by decide) (by decide) (by decide)
          rw [hm.1] at u2
          have e111 : u 167 (111 + k) = w 4 k := by rw [← u2]; exact (m_tt (σ := u) (r := 104) hk9).symm
          have mvt : mv (up2 u 167 (111 + k) (w 4 k + b)) 104 = dlU w k b := by
            have z := mv_up (σ := u) (r := 104) (f := 4) (j := k) (v := w 4 k + b) (by decide) (by decide) hk9
            rw [u2] at z
            exact z
          have fm : Fm 104 σ1 (up2 u 167 (111 + k) (w 4 k + b)) := u3.tr (Fm.up (by omega))
          have hmi : MI (up2 u 167 (111 + k) (w 4 k + b)) w H s B I := MI.co (by rw [fm.1 166 (by decide)]) (by rw [fm.1 166 (by decide)]) (by rw [fm.1 166 (by decide)]) (fun x h1 h2 => fm.1 x (by omega)) (fun i hi => fm.2 i (by omega)) hm
          have hbr := c_mbro (d := 58) (σ := up2 u 167 (111 + k) (w 4 k + b)) (r := 104) (T := T) (t := w 0 3) hG (by rw [mvt]; exact hwt) (by decide) (rO (by omega) (by omega))
          rw [mvt] at hbr
          have hus := c_mused (d := 57) (σ := up2 u 167 (111 + k) (w 4 k + b)) (r := 0) (T := T) hG (by rw [hmi.1]; exact hw) (by omega) (by decide)
          rw [hmi.1] at hus
          exact ⟨u, u1, e111, hmi, fm.frM, (m_tm (σ := up2 u 167 (111 + k) (w 4 k + b)) (r := 0)).symm.trans (by rw [hmi.1]), hbr, hus⟩
        have en1 : ((111 : Int) + (k : Int)).toNat = 111 + k := by omega
        by_cases hq : used w ≤ bro (dlU w k b) (w 0 3)
        · refine pc_mk (w 4 k + b) hM (rO (by omega) (by omega)) (hok.deed (by omega) (hwt.le (by omega)) (dlU_S hs)) ?_ (fun σ1 hm => ?_)
          · obtain ⟨t3, d1, d2, d3, d4⟩ := c_bef (d := 55) hG hct hH.1
            refine ⟨up2 t3 6 k (w 4 k + b), ca_in cd_X5_late bd_X5_late rfl (by decide) (Nat.le_of_ble_eq_true rfl) (fun Q P hP hQ => ?_), d2.wall d3 (Fr.up (o := 2) (f := 4) (by decide)) ?_, (fct.tr (bef_frC d4)).tr (fun x hx => up2_ne (by omega))⟩
            · refine k_X5_late_0 hP _ _ hG ⟨_, isC, b2_iR _, fun _ => ⟨_, wb, b2_iR _, fun _ => ⟨⟨by omega, by omega⟩, ?_⟩, fun z => absurd yb z⟩, fun z => absurd ya z⟩
              rw [Int.toNat_natCast, x6]
              exact ⟨_, wt, b2_iR _, fun _ => ⟨_, t2, sil, rO (by omega) (by omega), fun _ => ⟨t3, d1, ⟨by omega, by omega⟩, hQ⟩, fun z => absurd (by omega) z⟩, fun z => absurd yt z⟩
            · have := cv_up (σ := t3) (o := 2) (f := 4) (j := k) (v := w 4 k + b) (Or.inr ⟨by decide, by decide, hk9⟩)
              rw [d2.1] at this
              exact this
          · obtain ⟨u, u1, u2, u3, u4, u5, u6, u7⟩ := mod σ1 hm
            obtain ⟨u8, v1, v2, v3, v4⟩ := c_minds (d := 57) hG u3 hH.1
            have e8 : u8 167 (7 + k) = w 4 k := by rw [← v2.1, m_tt hk9, Nat.zero_add]
            have e9 : (up2 u8 167 (7 + k) (w 4 k + b)) 167 (7 + k) = w 4 k + b := by simp [up2]
            refine ⟨up2 u8 167 (7 + k) (w 4 k + b), ca_in cd_X6_late bd_X6_late rfl (by decide) (Nat.le_of_ble_eq_true rfl) (fun Q P hP hQ => ?_), v2.wall (Fm.up (by omega)) ?_, (u4.tr v3).tr (fun x hx => up2_ne (by omega))⟩
            · refine k_X6_late_0 hP _ _ hG ⟨_, isM σ1 hm, b2_iR _, fun _ => ⟨hb, _, mb σ1, b2_iR _, fun z => absurd z yb, fun _ => ⟨⟨by omega, by omega⟩, ?_⟩⟩, fun z => absurd ya z⟩
              rw [en, m6 σ1 hm]
              refine ⟨rO (by omega) (by omega), _, mt σ1, b2_iR _, fun _ => ⟨u, u1, ⟨by omega, by omega⟩, ⟨by omega, by omega⟩, ?_⟩, fun z => absurd yt z⟩
              rw [en1, u2, u5]
              refine ⟨_, u6, _, u7, rO (by omega) (by omega), rO (by omega) (by omega), fun _ => ⟨u8, v1, ⟨by omega, by omega⟩, ⟨by omega, by omega⟩, ⟨by omega, by omega⟩, ?_⟩, fun z => absurd hq z⟩
              rw [e8, e9]
              exact hQ
            · have := mv_up (σ := u8) (r := 0) (f := 4) (j := k) (v := w 4 k + b) (by decide) (by decide) hk9
              rw [v2.1, show 0 + mF 4 + k = 7 + k by simp [mF]] at this
              exact this
        · refine pc_mk (-1000000003) hM (by decide) (hok.le (by omega)) ⟨t2, ca_in cd_X5_late bd_X5_late rfl (by decide) (Nat.le_of_ble_eq_true rfl) (fun Q P hP hQ => ?_), hct, fct⟩ (fun σ1 hm => ?_)
          · refine k_X5_late_0 hP _ _ hG ⟨_, isC, b2_iR _, fun _ => ⟨_, wb, b2_iR _, fun _ => ⟨⟨by omega, by omega⟩, ?_⟩, fun z => absurd yb z⟩, fun z => absurd ya z⟩
            rw [Int.toNat_natCast, x6]
            exact ⟨_, wt, b2_iR _, fun _ => ⟨_, t2, sil, rO (by omega) (by omega), fun z => absurd z (by omega), fun _ => hQ⟩, fun z => absurd yt z⟩
          · obtain ⟨u, u1, u2, u3, u4, u5, u6, u7⟩ := mod σ1 hm
            refine ⟨_, ca_in cd_X6_late bd_X6_late rfl (by decide) (Nat.le_of_ble_eq_true rfl) (fun Q P hP hQ => ?_), u3, u4⟩
            refine k_X6_late_0 hP _ _ hG ⟨_, isM σ1 hm, b2_iR _, fun _ => ⟨hb, _, mb σ1, b2_iR _, fun z => absurd z yb, fun _ => ⟨⟨by omega, by omega⟩, ?_⟩⟩, fun z => absurd ya z⟩
            rw [en, m6 σ1 hm]
            refine ⟨rO (by omega) (by omega), _, mt σ1, b2_iR _, fun _ => ⟨u, u1, ⟨by omega, by omega⟩, ⟨by omega, by omega⟩, ?_⟩, fun z => absurd yt z⟩
            rw [en1, u2, u5]
            exact ⟨_, u6, _, u7, rO (by omega) (by omega), rO (by omega) (by omega), fun z => absurd z hq, fun _ => hQ⟩
      · have nt : b2 (0 ≤ w 4 k + b ∧ w 4 k + b ≤ 99) = 0 := b2_f hint
        refine pc_mk (-1000000002) hM (by decide) (hok.le (by omega)) ⟨σ, ca_in cd_X5_late bd_X5_late rfl (by decide) (Nat.le_of_ble_eq_true rfl) (fun Q P hP hQ => ?_), hc, FrC.rf⟩ (fun σ1 hm => ⟨σ1, ca_in cd_X6_late bd_X6_late rfl (by decide) (Nat.le_of_ble_eq_true rfl) (fun Q P hP hQ => ?_), hm, FrM.rf⟩)
        · refine k_X5_late_0 hP _ _ hG ⟨_, isC, b2_iR _, fun _ => ⟨_, wb, b2_iR _, fun _ => ⟨⟨by omega, by omega⟩, ?_⟩, fun z => absurd yb z⟩, fun z => absurd ya z⟩
          rw [Int.toNat_natCast, x6]
          exact ⟨_, wt, b2_iR _, fun z => absurd nt z, fun _ => hQ⟩
        · refine k_X6_late_0 hP _ _ hG ⟨_, isM σ1 hm, b2_iR _, fun _ => ⟨hb, _, mb σ1, b2_iR _, fun z => absurd z yb, fun _ => ⟨⟨by omega, by omega⟩, ?_⟩⟩, fun z => absurd ya z⟩
          rw [en, m6 σ1 hm]
          exact ⟨rO (by omega) (by omega), _, mt σ1, b2_iR _, fun z => absurd nt z, fun _ => hQ⟩
    · have nb : b2 (-99 ≤ b ∧ b ≤ 99) = 0 := b2_f hinb
      refine pc_mk (-1000000002) hM (by decide) (hok.le (by omega)) ⟨σ, ca_in cd_X5_late bd_X5_late rfl (by decide) (Nat.le_of_ble_eq_true rfl) (fun Q P hP hQ => ?_), hc, FrC.rf⟩ (fun σ1 hm => ⟨σ1, ca_in cd_X6_late bd_X6_late rfl (by decide) (Nat.le_of_ble_eq_true rfl) (fun Q P hP hQ => ?_), hm, FrM.rf⟩)
      · exact k_X5_late_0 hP _ _ hG ⟨_, isC, b2_iR _, fun _ => ⟨_, wb, b2_iR _, fun z => absurd nb z, fun _ => hQ⟩, fun z => absurd ya z⟩
      · exact k_X6_late_0 hP _ _ hG ⟨_, isM σ1 hm, b2_iR _, fun _ => ⟨hb, _, mb σ1, b2_iR _, fun _ => hQ, fun z => absurd nb z⟩, fun z => absurd ya z⟩
  · have na : b2 (0 ≤ a ∧ a < w 0 7) = 0 := b2_f hina
    refine pc_mk (-1000000001) hM (by decide) (hok.le (by omega)) ⟨σ, ca_in cd_X5_late bd_X5_late rfl (by decide) (Nat.le_of_ble_eq_true rfl) (fun Q P hP hQ => ?_), hc, FrC.rf⟩ (fun σ1 hm => ⟨σ1, ca_in cd_X6_late bd_X6_late rfl (by decide) (Nat.le_of_ble_eq_true rfl) (fun Q P hP hQ => ?_), hm, FrM.rf⟩)
    · exact k_X5_late_0 hP _ _ hG ⟨_, isC, b2_iR _, fun z => absurd na z, fun _ => hQ⟩
    · exact k_X6_late_0 hP _ _ hG ⟨_, isM σ1 hm, b2_iR _, fun z => absurd na z, fun _ => hQ⟩
end S7
