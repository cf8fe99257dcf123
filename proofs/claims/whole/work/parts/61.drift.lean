/-! Both sides of a call: drift -/
def n4 (s : Int) : Int := nx (nx (nx (nx s)))
def drw (w : Wl) (s : Int) : Wl := if dq s 4 < 2 then (if w 0 7 < 9 ∧ w 0 3 + dq (nx (nx s)) 30 ≤ 99 then adT w (w 0 3 + dq (nx (nx s)) 30) (dq (nx (nx (nx s))) 4 + 1) else w) else if dq s 4 = 2 then fil w (dq (nx s) (w 0 2)).toNat else if w 2 (dq (nx s) (w 0 2)).toNat = -1 then up2 w 1 (dq (nx s) (w 0 2)).toNat (max 1 (dq (nx (nx (nx s))) 4)) else w
section S11
variable {d : Nat} {g : pG} {σ : pM} {T : Int} {w : Wl} {H : Hs} {s : Int} {B : Bk} {I : Ig}
theorem drw_ok (h200 : 10000 ≤ T) (hok : aOK T w H s B I) : aOK (T + 3) (drw w s) (psh w H) (n4 s) B I := by
  obtain ⟨⟨hw, hs⟩, hH, hsd, hB, hI⟩ := id hok
  have hcl := hw.cells
  have htm := hw.tm
  have b4 := dq_bd (nx (nx (nx s))) (n := 4) (by decide)
  have b30 := dq_bd (nx (nx s)) (n := 30) (by decide)
  have bc := dq_bd (nx s) (n := w 0 2) (by omega)
  have key : wOK (T + 3) (drw w s) ∧ wS (drw w s) := by
    unfold drw
    split
    · split
      · rename_i q
        exact ⟨(adT_ok hw q.1 (by omega) (by omega)).le (by omega), adT_S hs⟩
      · exact ⟨hw.le (by omega), hs⟩
    · split
      · exact ⟨fil_ok hw (by omega) (by omega), fil_wS hs⟩
      · split
        · rename_i q
          exact ⟨(ned_ok hw (by omega) q (by omega)).le (by omega), ned_S hs⟩
        · exact ⟨hw.le (by omega), hs⟩
  obtain ⟨k1, k2, k3, k4, k5⟩ := hok.deed (T2 := T + 3) (by omega) key.1 key.2
  exact ⟨k1, k2, nx_bd _, k4, k5⟩
theorem c_drOnce (hG : gAll g) (h200 : 10000 ≤ T) (hT : T ≤ 88000) (hok : aOK T w H s B I) (hc : CI σ w H s B I) : ∃ σ2, Ca (d + 5) yX5_driftOnce [vR (some 1)] g σ [] g σ2 ∧ CI σ2 (drw w s) (psh w H) (n4 s) B I ∧ FrC σ σ2 := by
  obtain ⟨⟨hw, hs⟩, hH, hsd, hB, hI⟩ := id hok
  have hcl := hw.cells
  have htm := hw.tm
  have hnt := hw.nt
  have b1 := dq_bd s (n := 4) (by decide)
  have b4 := dq_bd (nx (nx (nx s))) (n := 4) (by decide)
  have b30 := dq_bd (nx (nx s)) (n := 30) (by decide)
  have bc := dq_bd (nx s) (n := w 0 2) (by omega)
  obtain ⟨t0, a1, a2, a3, a4⟩ := c_bef (d := d) hG hc hH.1
  have s1 := nx_bd s
  have s2 := nx_bd (nx s)
  have s3 := nx_bd (nx (nx s))
  let t1 : pM := up2 t0 1 7 (nx s)
  let t2 : pM := up2 t1 1 7 (nx (nx s))
  let t3 : pM := up2 t2 1 7 (nx (nx (nx s)))
  let t4 : pM := up2 t3 1 7 (n4 s)
  have c1' : CI t1 w (psh w H) (nx s) B I := a2.seed
  have c2' : CI t2 w (psh w H) (nx (nx s)) B I := c1'.seed
  have c3' : CI t3 w (psh w H) (nx (nx (nx s))) B I := c2'.seed
  have c4' : CI t4 w (psh w H) (n4 s) B I := c3'.seed
  have e8 : t4 1 8 = 0 := by
    rw [← a3]
    show (up2 (up2 (up2 (up2 t0 1 7 _) 1 7 _) 1 7 _) 1 7 _) 1 8 = _
    simp [up2]
  have f4 : FrC σ t4 := (bef_frC a4).tr (fun x hx => by
    show (up2 (up2 (up2 (up2 t0 1 7 _) 1 7 _) 1 7 _) 1 7 _) x = _
    rw [up2_ne (by omega), up2_ne (by omega), up2_ne (by omega), up2_ne (by omega)])
  have e22 : t1 2 2 = w 0 2 := by rw [← c1'.1]; exact (cv0 (by decide)).symm
  have e23 : t4 2 3 = w 0 3 := by rw [← c4'.1]; exact (cv0 (by decide)).symm
  have e27 : t4 2 7 = w 0 7 := by rw [← c4'.1]; exact (cv0 (by decide)).symm
  have e42 : t4 2 2 = w 0 2 := by rw [← c4'.1]; exact (cv0 (by decide)).symm
  have d1 := c_draw (d := d + 3) (σ := t0) (s := s) (n := 4) hG hsd a2.2.1 (by decide)
  have d2 := c_draw (d := d + 3) (σ := t1) (s := nx s) (n := w 0 2) hG s1 c1'.2.1 (by omega)
  have d3 := c_draw (d := d + 3) (σ := t2) (s := nx (nx s)) (n := 30) hG s2 c2'.2.1 (by decide)
  have d4 := c_draw (d := d + 3) (σ := t3) (s := nx (nx (nx s))) (n := 4) hG s3 c3'.2.1 (by decide)
  have hw4 : wOK T (cv t4 2) := by rw [c4'.1]; exact hw
  obtain ⟨c, hc0⟩ := Int.eq_ofNat_of_zero_le bc.1
  have hc9 : c < 9 := by omega
  have ecn : (dq (nx s) (w 0 2)).toNat = c := by omega
  have start : ∀ (σ2 : pM) (Q : pQ) (P : pP), Clo (pCall (d + 4)) yX5_driftOnce cX5_driftOnce none 5 0 0 Q P → ((2 ≤ dq s 4 → iR (dq s 4) ∧ (¬ dq s 4 = 2 → ∃ (v10 : Int), Ca (d + 4) yX4_isCell [vR (some 2), vI (c : Int)] g t4 [vI v10] g t4 ∧ iR v10 ∧ (v10 = 0 → Q [] g t4) ∧ (¬ (v10 = 0) → ∃ (v11 : Int), Ca (d + 4) yX4_isPoured [vR (some 2), vI (c : Int)] g t4 [vI v11] g t4 ∧ iR v11 ∧ (¬ v11 = 0 → Q [] g t4) ∧ (¬ (¬ v11 = 0) → ∃ (v12 : Int), Ca (d + 4) yJ9_max_7cf53 [vI 1, vI (dq (nx (nx (nx s))) 4)] g t4 [vI v12] g t4 ∧ (0 ≤ (c : Int) ∧ (c : Int) < 9) ∧ Q [] g (up2 t4 3 c v12)))) ∧ (¬ (¬ dq s 4 = 2) → ∃ (s13 : pM), Ca (d + 4) yX4_fill [vR (some 2), vI (c : Int)] g t4 [] g s13 ∧ Q [] g s13)) ∧ (¬ (2 ≤ dq s 4) → ∃ (v14 : Int), Ca (d + 4) yX4_hasTruckRoom [vR (some 2)] g t4 [vI v14] g t4 ∧ iR v14 ∧ (v14 = 0 → Q [] g t4) ∧ (¬ (v14 = 0) → iR (w 0 3 + dq (nx (nx s)) 30) ∧ (99 < (w 0 3 + dq (nx (nx s)) 30) → Q [] g t4) ∧ (¬ (99 < (w 0 3 + dq (nx (nx s)) 30)) → ∃ (s15 : pM), Ca (d + 4) yX4_addTruck [vR (some 2), vI (w 0 3 + dq (nx (nx s)) 30), vI (dq (nx (nx (nx s))) 4 + 1)] g t4 [] g s15 ∧ Q [] g s15)))) → P 0 [(0, vR (some 1))] [] g σ 0 0 := by
    intro σ2 Q P hP h
    refine k_X5_driftOnce_0 hP hG ⟨t0, a1, _, t1, d1, ?_⟩
    rw [e22]
    refine ⟨_, t2, d2, _, t3, d3, _, t4, d4, rO (by omega) (by omega), ?_⟩
    rw [e23, hc0, Int.toNat_natCast]
    exact h
  by_cases h2 : dq s 4 < 2
  · have room := c_hasTruckRoom (d := d + 3) (σ := t4) (o := 2) (T := T) hG.W_2 hw4
    rw [e27] at room
    by_cases hr : w 0 7 < 9
    · have yr : ¬ b2 (w 0 7 < 9) = 0 := by rw [b2_t hr]; decide
      by_cases h99 : w 0 3 + dq (nx (nx s)) 30 ≤ 99
      · have ed : drw w s = adT w (w 0 3 + dq (nx (nx s)) 30) (dq (nx (nx (nx s))) 4 + 1) := by rw [drw, if_pos h2, if_pos ⟨hr, h99⟩]
        obtain ⟨t5, f1, f2, f3⟩ := c_addTruck (d := d + 2) (σ := t4) (o := 2) (T := T) (a := w 0 3 + dq (nx (nx s)) 30) (b := dq (nx (nx (nx s))) 4 + 1) hG.W_2 hw4 (by omega)
        rw [c4'.1, ← ed] at f2
        exact ⟨t5, ca_in cd_X5_driftOnce bd_X5_driftOnce rfl (by decide) (Nat.le_of_ble_eq_true rfl) (fun Q P hP hQ => start t5 Q P hP ⟨fun z => absurd z (by omega), fun _ => ⟨_, room, b2_iR _, fun z => absurd z yr, fun _ => ⟨rO (by omega) (by omega), fun z => absurd z (by omega), fun _ => ⟨t5, f1, hQ⟩⟩⟩⟩), c4'.wall e8 f3 f2, f4.tr (f3.frC (by decide))⟩
      · have ed : drw w s = w := by rw [drw, if_pos h2, if_neg (fun z => h99 z.2)]
        rw [ed]
        exact ⟨t4, ca_in cd_X5_driftOnce bd_X5_driftOnce rfl (by decide) (Nat.le_of_ble_eq_true rfl) (fun Q P hP hQ => start t4 Q P hP ⟨fun z => absurd z (by omega), fun _ => ⟨_, room, b2_iR _, fun z => absurd z yr, fun _ => ⟨rO (by omega) (by omega), fun _ => hQ, fun z => absurd (by omega) z⟩⟩⟩), c4', f4⟩
    · have nr : b2 (w 0 7 < 9) = 0 := b2_f hr
      have ed : drw w s = w := by rw [drw, if_pos h2, if_neg (fun z => hr z.1)]
      rw [ed]
      exact ⟨t4, ca_in cd_X5_driftOnce bd_X5_driftOnce rfl (by decide) (Nat.le_of_ble_eq_true rfl) (fun Q P hP hQ => start t4 Q P hP ⟨fun z => absurd z (by omega), fun _ => ⟨_, room, b2_iR _, fun _ => hQ, fun z => absurd nr z⟩⟩), c4', f4⟩
  · by_cases h22 : dq s 4 = 2
    · have ed : drw w s = fil w c := by rw [drw, if_neg h2, if_pos h22, ecn]
      obtain ⟨t5, f1, f2, f3⟩ := c_fill (d := d) (σ := t4) (o := 2) (T := T) (c := c) hG.W_2 hw4 (by omega) hc9
      rw [c4'.1, ← ed] at f2
      exact ⟨t5, ca_in cd_X5_driftOnce bd_X5_driftOnce rfl (by decide) (Nat.le_of_ble_eq_true rfl) (fun Q P hP hQ => start t5 Q P hP ⟨fun _ => ⟨rO (by omega) (by omega), fun z => absurd h22 z, fun _ => ⟨t5, f1, hQ⟩⟩, fun z => absurd (by omega) z⟩), c4'.wall e8 f3 f2, f4.tr (f3.frC (by decide))⟩
    · have isC := c_isCell (d := d + 3) (σ := t4) (o := 2) (T := T) (c := (c : Int)) hG.W_2 hw4 (rO (by omega) (by omega))
      have isP := c_isPn (d := d + 3) (σ := t4) (o := 2) (T := T) (c := c) hG.W_2 hw4 (by omega) hc9
      rw [c4'.1] at isP
      have yc : ¬ b2 (0 ≤ (c : Int) ∧ (c : Int) < t4 2 2) = 0 := by rw [e42, b2_t (by omega)]; decide
      by_cases hp : w 2 c = -1
      · have np : b2 (¬ w 2 c = -1) = 0 := b2_f (fun z => z hp)
        have ed : drw w s = up2 w 1 c (max 1 (dq (nx (nx (nx s))) 4)) := by rw [drw, if_neg h2, if_neg h22, ecn, if_pos hp]
        refine ⟨up2 t4 3 c (max 1 (dq (nx (nx (nx s))) 4)), ca_in cd_X5_driftOnce bd_X5_driftOnce rfl (by decide) (Nat.le_of_ble_eq_true rfl) (fun Q P hP hQ => start t4 Q P hP ⟨fun _ => ⟨rO (by omega) (by omega), fun _ => ⟨_, isC, b2_iR _, fun z => absurd z yc, fun _ => ⟨_, isP, b2_iR _, fun z => absurd np z, fun _ => ⟨_, c_max (d := d + 3) (by decide) (rO (by omega) (by omega)), ⟨by omega, by omega⟩, hQ⟩⟩⟩, fun z => absurd h22 z⟩, fun z => absurd (by omega) z⟩), c4'.wall e8 (Fr.up (o := 2) (f := 1) (by decide)) ?_, f4.tr (fun x hx => up2_ne (by omega))⟩
        have := cv_up (σ := t4) (o := 2) (f := 1) (j := c) (v := max 1 (dq (nx (nx (nx s))) 4)) (Or.inr ⟨by decide, by decide, hc9⟩)
        rw [c4'.1] at this
        rw [ed]
        exact this
      · have yp : ¬ b2 (¬ w 2 c = -1) = 0 := by rw [b2_t hp]; decide
        have ed : drw w s = w := by rw [drw, if_neg h2, if_neg h22, ecn, if_neg hp]
        rw [ed]
        exact ⟨t4, ca_in cd_X5_driftOnce bd_X5_driftOnce rfl (by decide) (Nat.le_of_ble_eq_true rfl) (fun Q P hP hQ => start t4 Q P hP ⟨fun _ => ⟨rO (by omega) (by omega), fun _ => ⟨_, isC, b2_iR _, fun z => absurd z yc, fun _ => ⟨_, isP, b2_iR _, fun _ => hQ, fun z => absurd yp z⟩⟩, fun z => absurd h22 z⟩, fun z => absurd (by omega) z⟩), c4', f4⟩
theorem c_mdraws (hG : gAll g) (h200 : 10000 ≤ T) (hT : T ≤ 88000) (hok : aOK T w H s B I) (hm : MI σ w H s B I) : ∃ σ2, Ca (d + 5) yX6_draws [vR (some 166)] g σ [] g σ2 ∧ MI σ2 (drw w s) (psh w H) (n4 s) B I ∧ FrM σ σ2 := by
  obtain ⟨⟨hw, hs⟩, hH, hsd, hB, hI⟩ := id hok
  have hcl := hw.cells
  have htm := hw.tm
  have hnt := hw.nt
  have b1 := dq_bd s (n := 4) (by decide)
  have b4 := dq_bd (nx (nx (nx s))) (n := 4) (by decide)
  have b30 := dq_bd (nx (nx s)) (n := 30) (by decide)
  have bc := dq_bd (nx s) (n := w 0 2) (by omega)
  obtain ⟨t0, a1, a2, a3, a4⟩ := c_minds (d := d + 2) hG hm hH.1
  have s1 := nx_bd s
  have s2 := nx_bd (nx s)
  have s3 := nx_bd (nx (nx s))
  let t1 : pM := up2 t0 166 4 (nx s)
  let t2 : pM := up2 t1 166 4 (nx (nx s))
  let t3 : pM := up2 t2 166 4 (nx (nx (nx s)))
  let t4 : pM := up2 t3 166 4 (n4 s)
  have c1' : MI t1 w (psh w H) (nx s) B I := a2.seed
  have c2' : MI t2 w (psh w H) (nx (nx s)) B I := c1'.seed
  have c3' : MI t3 w (psh w H) (nx (nx (nx s))) B I := c2'.seed
  have c4' : MI t4 w (psh w H) (n4 s) B I := c3'.seed
  have f4 : FrM σ t4 := a3.tr (fun x hx => by
    show (up2 (up2 (up2 (up2 t0 166 4 _) 166 4 _) 166 4 _) 166 4 _) x = _
    rw [up2_ne (by omega), up2_ne (by omega), up2_ne (by omega), up2_ne (by omega)])
  have e22 := c_mcells (d := d + 3) (σ := t1) hG
  rw [c1'.1] at e22
  have e23 : t4 167 2 = w 0 3 := by rw [← c4'.1]; exact (m_tm (σ := t4) (r := 0)).symm
  have e27 : t4 167 3 = w 0 7 := by rw [← c4'.1]; exact (m_nt (σ := t4) (r := 0)).symm
  have d1 := c_mdraw (d := d + 3) (σ := t0) (s := s) (n := 4) hG hsd a2.2.1 (by decide)
  have d2 := c_mdraw (d := d + 3) (σ := t1) (s := nx s) (n := w 0 2) hG s1 c1'.2.1 (by omega)
  have d3 := c_mdraw (d := d + 3) (σ := t2) (s := nx (nx s)) (n := 30) hG s2 c2'.2.1 (by decide)
  have d4 := c_mdraw (d := d + 3) (σ := t3) (s := nx (nx (nx s))) (n := 4) hG s3 c3'.2.1 (by decide)
  have hw4 : wOK T (mv t4 0) := by rw [c4'.1]; exact hw
  obtain ⟨c, hc0⟩ := Int.eq_ofNat_of_zero_le bc.1
  have hc9 : c < 9 := by omega
  have ecn : (dq (nx s) (w 0 2)).toNat = c := by omega
  have start : ∀ (Q : pQ) (P : pP), Clo (pCall (d + 4)) yX6_draws cX6_draws none 6 0 0 Q P → ((2 ≤ dq s 4 → iR (dq s 4) ∧ (¬ dq s 4 = 2 → ∃ (v11 : Int), Ca (d + 4) yX6_isPoured [vR (some 166), vI 0, vI (c : Int)] g t4 [vI v11] g t4 ∧ iR v11 ∧ (¬ v11 = 0 → Q [] g t4) ∧ (¬ (¬ v11 = 0) → iR (dq (nx (nx (nx s))) 4) ∧ (dq (nx (nx (nx s))) 4 ≤ 1 → (0 ≤ (25 + (c : Int)) ∧ (25 + (c : Int)) < 1300) ∧ Q [] g (up2 t4 167 (Int.toNat (25 + (c : Int))) 1)) ∧ (¬ (dq (nx (nx (nx s))) 4 ≤ 1) → (0 ≤ (25 + (c : Int)) ∧ (25 + (c : Int)) < 1300) ∧ Q [] g (up2 t4 167 (Int.toNat (25 + (c : Int))) (dq (nx (nx (nx s))) 4))))) ∧ (¬ (¬ dq s 4 = 2) → ∃ (v12 : Int) (s13 : pM), Ca (d + 4) yX6_pours [vR (some 166), vI 0, vI (c : Int)] g t4 [vI v12] g s13 ∧ iR v12 ∧ (v12 = 0 → Q [] g s13) ∧ (¬ (v12 = 0) → Q [] g s13))) ∧ (¬ (2 ≤ dq s 4) → iR (w 0 7) ∧ (9 ≤ (w 0 7) → Q [] g t4) ∧ (¬ (9 ≤ (w 0 7)) → iR (w 0 3 + dq (nx (nx s)) 30) ∧ (99 < (w 0 3 + dq (nx (nx s)) 30) → Q [] g t4) ∧ (¬ (99 < (w 0 3 + dq (nx (nx s)) 30)) → ∃ (s14 : pM), Ca (d + 4) yX6_comes [vR (some 166), vI (w 0 3 + dq (nx (nx s)) 30), vI (dq (nx (nx (nx s))) 4 + 1)] g t4 [] g s14 ∧ Q [] g s14)))) → P 0 [(0, vR (some 166))] [] g σ 0 0 := by
    intro Q P hP h
    refine k_X6_draws_0 hP hG ⟨t0, a1, _, t1, d1, _, e22, _, t2, d2, _, t3, d3, _, t4, d4, rO (by omega) (by omega), ?_⟩
    rw [e23, e27, hc0]
    exact h
  by_cases h2 : dq s 4 < 2
  · by_cases hr : w 0 7 < 9
    · by_cases h99 : w 0 3 + dq (nx (nx s)) 30 ≤ 99
      · have ed : drw w s = adT w (w 0 3 + dq (nx (nx s)) 30) (dq (nx (nx (nx s))) 4 + 1) := by rw [drw, if_pos h2, if_pos ⟨hr, h99⟩]
        obtain ⟨t5, f1, f2, f3⟩ := c_mcomes (d := d + 3) (σ := t4) (T := T) (a := w 0 3 + dq (nx (nx s)) 30) (b := dq (nx (nx (nx s))) 4 + 1) hG hw4 (by rw [c4'.1]; exact hr)
        rw [c4'.1, ← ed] at f2
        exact ⟨t5, ca_in cd_X6_draws bd_X6_draws rfl (by decide) (Nat.le_of_ble_eq_true rfl) (fun Q P hP hQ => start Q P hP ⟨fun z => absurd z (by omega), fun _ => ⟨rO (by omega) (by omega), fun z => absurd z (by omega), fun _ => ⟨rO (by omega) (by omega), fun z => absurd z (by omega), fun _ => ⟨t5, f1, hQ⟩⟩⟩⟩), c4'.wall f3 f2, f4.tr f3.frM⟩
      · have ed : drw w s = w := by rw [drw, if_pos h2, if_neg (fun z => h99 z.2)]
        rw [ed]
        exact ⟨t4, ca_in cd_X6_draws bd_X6_draws rfl (by decide) (Nat.le_of_ble_eq_true rfl) (fun Q P hP hQ => start Q P hP ⟨fun z => absurd z (by omega), fun _ => ⟨rO (by omega) (by omega), fun z => absurd z (by omega), fun _ => ⟨rO (by omega) (by omega), fun _ => hQ, fun z => absurd (by omega) z⟩⟩⟩), c4', f4⟩
    · have ed : drw w s = w := by rw [drw, if_pos h2, if_neg (fun z => hr z.1)]
      rw [ed]
      exact ⟨t4, ca_in cd_X6_draws bd_X6_draws rfl (by decide) (Nat.le_of_ble_eq_true rfl) (fun Q P hP hQ => start Q P hP ⟨fun z => absurd z (by omega), fun _ => ⟨rO (by omega) (by omega), fun _ => hQ, fun z => absurd (by omega) z⟩⟩), c4', f4⟩
  · by_cases h22 : dq s 4 = 2
    · have ed : drw w s = fil w c := by rw [drw, if_neg h2, if_pos h22, ecn]
      obtain ⟨t5, f1, f2, f3⟩ := c_mpours (d := d) (σ := t4) (r := 0) (T := T) (c := c) hG hw4 (by omega) (by decide) (by rw [c4'.1]; omega)
      rw [c4'.1] at f1 f2
      rw [← ed] at f2
      exact ⟨t5, ca_in cd_X6_draws bd_X6_draws rfl (by decide) (Nat.le_of_ble_eq_true rfl) (fun Q P hP hQ => start Q P hP ⟨fun _ => ⟨rO (by omega) (by omega), fun z => absurd h22 z, fun _ => ⟨_, t5, f1, b2_iR _, fun _ => hQ, fun _ => hQ⟩⟩, fun z => absurd (by omega) z⟩), c4'.wall f3 f2, f4.tr f3.frM⟩
    · have isP := c_mP (d := d + 3) (σ := t4) (r := 0) (T := T) (c := c) hG hw4 (by omega) (by decide) hc9
      rw [c4'.1] at isP
      by_cases hp : w 2 c = -1
      · have np : b2 (¬ w 2 c = -1) = 0 := b2_f (fun z => z hp)
        have ed : drw w s = up2 w 1 c (max 1 (dq (nx (nx (nx s))) 4)) := by rw [drw, if_neg h2, if_neg h22, ecn, if_pos hp]
        have en : ((25 : Int) + (c : Int)).toNat = 25 + c := by omega
        refine ⟨up2 t4 167 (25 + c) (max 1 (dq (nx (nx (nx s))) 4)), ca_in cd_X6_draws bd_X6_draws rfl (by decide) (Nat.le_of_ble_eq_true rfl) (fun Q P hP hQ => start Q P hP ⟨fun _ => ⟨rO (by omega) (by omega), fun _ => ⟨_, isP, b2_iR _, fun z => absurd np z, fun _ => ⟨rO (by omega) (by omega), fun z => ⟨⟨by omega, by omega⟩, ?_⟩, fun z => ⟨⟨by omega, by omega⟩, ?_⟩⟩⟩, fun z => absurd h22 z⟩, fun z => absurd (by omega) z⟩), c4'.wall (Fm.up (by omega)) ?_, f4.tr (fun x hx => up2_ne (by omega))⟩
        · rw [Int.max_eq_left (by omega)] at hQ
          rw [en]; exact hQ
        · rw [Int.max_eq_right (by omega)] at hQ
          rw [en]; exact hQ
        · have := mv_up (σ := t4) (r := 0) (f := 1) (j := c) (v := max 1 (dq (nx (nx (nx s))) 4)) (by decide) (by decide) hc9
          rw [c4'.1, show 0 + mF 1 + c = 25 + c by simp [mF]] at this
          rw [ed]
          exact this
      · have yp : ¬ b2 (¬ w 2 c = -1) = 0 := by rw [b2_t hp]; decide
        have ed : drw w s = w := by rw [drw, if_neg h2, if_neg h22, ecn, if_neg hp]
        rw [ed]
        exact ⟨t4, ca_in cd_X6_draws bd_X6_draws rfl (by decide) (Nat.le_of_ble_eq_true rfl) (fun Q P hP hQ => start Q P hP ⟨fun _ => ⟨rO (by omega) (by omega), fun _ => ⟨_, isP, b2_iR _, fun _ => hQ, fun z => absurd yp z⟩, fun z => absurd h22 z⟩, fun z => absurd (by omega) z⟩), c4', f4⟩
def dri (w : Wl) (H : Hs) (s : Int) : Nat → Wl × Hs × Int
  | 0 => (w, H, s)
  | n + 1 => (drw (dri w H s n).1 (dri w H s n).2.2, psh (dri w H s n).1 (dri w H s n).2.1, n4 (dri w H s n).2.2)
theorem dri_ok (h200 : 10000 ≤ T) (hok : aOK T w H s B I) : ∀ n : Nat, aOK (T + 3 * n) (dri w H s n).1 (dri w H s n).2.1 (dri w H s n).2.2 B I
  | 0 => hok.le (by omega)
  | n + 1 => (drw_ok (by omega) (dri_ok h200 hok n)).le (by omega)
theorem pc_drift {a : Int} (hG : gAll g) (h200 : 10000 ≤ T) (hT : T ≤ 80000) (ha : iR a) : PC g T (T + 60) yX5_drift yX6_drift [vI a] := by
  intro σ w H s B I hok hc hM
  obtain ⟨⟨hw, hs⟩, hH, hsd, hB, hI⟩ := id hok
  have wa := c_within (d := 58) (g := g) (σ := σ) (a := a) (b := 1) (c := 20) ha (by decide) (by decide)
  have ma := fun σ => c_in (d := 58) (g := g) (σ := σ) (a := a) (b := 1) (c := 20) (jRi ha) (by decide) (by decide)
  by_cases hina : 1 ≤ a ∧ a ≤ 20
  · have ya : ¬ b2 (1 ≤ a ∧ a ≤ 20) = 0 := by rw [b2_t hina]; decide
    obtain ⟨N, rfl⟩ := Int.eq_ofNat_of_zero_le (show 0 ≤ a by omega)
    have hN : N ≤ 20 := by omega
    have hokN := dri_ok h200 hok N
    have hwN := hokN.1.1
    have hclN := hwN.cells
    have hpb : (bs (pP1 (dri w H s N).1) ((dri w H s N).1 0 2).toNat) < 512 := bs_512 _ (by omega)
    have hpc := pcn_le _ hpb
    refine pc_mk (pcn (bs (pP1 (dri w H s N).1) ((dri w H s N).1 0 2).toNat) : Int) hM (rO (by omega) (by omega)) (hokN.le (by omega)) ?_ (fun σ1 hm => ?_)
    · have loop : ∀ (m n : Nat) (u : pM), n + m = N → CI u (dri w H s n).1 (dri w H s n).2.1 (dri w H s n).2.2 B I → FrC σ u → ∃ σ2, CI σ2 (dri w H s N).1 (dri w H s N).2.1 (dri w H s N).2.2 B I ∧ FrC σ σ2 ∧ ∀ (Q : pQ) (P : pP), Clo (pCall 59) yX5_drift cX5_drift (some .int) 3 0 0 Q P → Q [vI (pcn (bs (pP1 (dri w H s N).1) ((dri w H s N).1 0 2).toNat) : Int)] g σ2 → P 15 [(0, vR (some 1)), (1, vI (N : Int)), (2, vI (n : Int))] [] g u 0 0 := by
        intro m
        induction m with
        | zero =>
          intro n u hn hcu hf
          obtain rfl : n = N := by omega
          have hcp := c_pcount (d := 56) (σ := u) (o := 2) (T := T + 3 * n) hG.W_2 (by rw [hcu.1]; exact hwN) (by omega)
          rw [hcu.1] at hcp
          exact ⟨u, hcu, hf, fun Q P hP hQ => k_X5_drift_15 hP _ _ hG ⟨rO (by omega) (by omega), rO (by omega) (by omega), fun _ => ⟨_, hcp, hQ⟩, fun z => absurd (Int.le_refl _) z⟩⟩
        | succ m ih =>
          intro n u hn hcu hf
          obtain ⟨u2, a1, a2, a3⟩ := c_drOnce (d := 54) (σ := u) (T := T + 3 * n) hG (by omega) (by omega) (dri_ok h200 hok n) hcu
          obtain ⟨σ2, r1, r2, r3⟩ := ih (n + 1) u2 (by omega) a2 (hf.tr a3)
          refine ⟨σ2, r1, r2, fun Q P hP hQ => ?_⟩
          have h15 := r3 Q P hP hQ
          exact k_X5_drift_15 hP _ _ hG ⟨rO (by omega) (by omega), rO (by omega) (by omega), fun z => absurd z (by omega), fun _ => ⟨u2, a1, h15⟩⟩
      obtain ⟨σ2, r1, r2, r3⟩ := loop N 0 σ (by omega) hc FrC.rf
      exact ⟨σ2, ca_in cd_X5_drift bd_X5_drift rfl (by decide) (Nat.le_of_ble_eq_true rfl) (fun Q P hP hQ => k_X5_drift_0 hP _ hG ⟨_, wa, b2_iR _, fun _ => r3 Q P hP hQ, fun z => absurd ya z⟩), r1, r2⟩
    · have loop : ∀ (m n : Nat) (u : pM), n + m = N → MI u (dri w H s n).1 (dri w H s n).2.1 (dri w H s n).2.2 B I → FrM σ1 u → ∃ σ2, MI σ2 (dri w H s N).1 (dri w H s N).2.1 (dri w H s N).2.2 B I ∧ FrM σ1 σ2 ∧ ∀ (Q : pQ) (P : pP), Clo (pCall 59) yX6_drift cX6_drift (some .int) 3 0 0 Q P → Q [vI (pcn (bs (pP1 (dri w H s N).1) ((dri w H s N).1 0 2).toNat) : Int)] g σ2 → P 17 [(0, vR (some 166)), (1, vI (N : Int)), (2, vI (n : Int))] [] g u 0 0 := by
        intro m
        induction m with
        | zero =>
          intro n u hn hcu hf
          obtain rfl : n = N := by omega
          have hcp := c_mpset (d := 57) (σ := u) (T := T + 3 * n) hG (by rw [hcu.1]; exact hwN) (by omega)
          rw [hcu.1] at hcp
          have hon := c_ones (d := 58) (g := g) (σ := u) hpb
          exact ⟨u, hcu, hf, fun Q P hP hQ => k_X6_drift_17 hP _ _ hG ⟨rO (by omega) (by omega), rO (by omega) (by omega), fun _ => ⟨_, hcp, _, hon, hQ⟩, fun z => absurd (Int.le_refl _) z⟩⟩
        | succ m ih =>
          intro n u hn hcu hf
          obtain ⟨u2, a1, a2, a3⟩ := c_mdraws (d := 54) (σ := u) (T := T + 3 * n) hG (by omega) (by omega) (dri_ok h200 hok n) hcu
          obtain ⟨σ2, r1, r2, r3⟩ := ih (n + 1) u2 (by omega) a2 (hf.tr a3)
          refine ⟨σ2, r1, r2, fun Q P hP hQ => ?_⟩
          have h15 := r3 Q P hP hQ
          exact k_X6_drift_17 hP _ _ hG ⟨rO (by omega) (by omega), rO (by omega) (by omega), fun z => absurd z (by omega), fun _ => ⟨u2, a1, h15⟩⟩
      obtain ⟨σ2, r1, r2, r3⟩ := loop N 0 σ1 (by omega) hm FrM.rf
      exact ⟨σ2, ca_in cd_X6_drift bd_X6_drift rfl (by decide) (Nat.le_of_ble_eq_true rfl) (fun Q P hP hQ => k_X6_drift_0 hP _ hG ⟨ha, _, ma σ1, b2_iR _, fun _ => r3 Q P hP hQ, fun z => absurd ya z⟩), r1, r2⟩
  · have na : b2 (1 ≤ a ∧ a ≤ 20) = 0 := b2_f hina
    refine pc_mk (-1000000002) hM (by decide) (hok.le (by omega)) ⟨σ, ca_in cd_X5_drift bd_X5_drift rfl (by decide) (Nat.le_of_ble_eq_true rfl) (fun Q P hP hQ => ?_), hc, FrC.rf⟩ (fun σ1 hm => ⟨σ1, ca_in cd_X6_drift bd_X6_drift rfl (by decide) (Nat.le_of_ble_eq_true rfl) (fun Q P hP hQ => ?_), hm, FrM.rf⟩)
    · exact k_X5_drift_0 hP _ hG ⟨_, wa, b2_iR _, fun z => absurd na z, fun _ => hQ⟩
    · exact k_X6_drift_0 hP _ hG ⟨ha, _, ma σ1, b2_iR _, fun z => absurd na z, fun _ => hQ⟩
end S11
