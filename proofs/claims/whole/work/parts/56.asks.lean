/-! Both sides of a call: cells, edges, trucks, the best, where to stop -/
def spS (w : Wl) (o : Nat → Int) : Nat → Wl × Int × Int
  | 0 => (w, stp w, 0)
  | i + 1 => if stp (fil (spS w o i).1 (o i).toNat) < (spS w o i).2.1 then (fil (spS w o i).1 (o i).toNat, stp (fil (spS w o i).1 (o i).toNat), (i : Int) + 1) else (fil (spS w o i).1 (o i).toNat, (spS w o i).2.1, (spS w o i).2.2)
def spR (w : Wl) (a : Int) : Int := match bst w with
  | none => -1
  | some q => if a = 0 then (spS w q.2.2 (un w).toNat).2.1 else (spS w q.2.2 (un w).toNat).2.2
section S6
variable {g : pG} {T : Int}
theorem hbh_bd {w : Wl} (hw : wOK T w) (h200 : 200 ≤ T) {c : Nat} (hc : c < 9) : -1 ≤ hbh w c ∧ hbh w c ≤ 1000 := by
  have := hrm_bd (fil_ok hw h200 hc)
  unfold hbh
  split <;> omega
theorem pc_cell {a b : Int} (hG : gAll g) (h200 : 200 ≤ T) (hT : T ≤ 80000) (ha : iR a) (hb : iR b) : PC g T (T + 60) yX5_cell yX6_cell [vI a, vI b] := by
  intro σ w H s B I hok hc hM
  obtain ⟨⟨hw, hs⟩, hH, hsd, hB, hI⟩ := id hok
  have h1 := hc.1
  have hcw : wOK T (cv σ 2) := by rw [h1]; exact hw
  have hcl := hw.cells
  have e2 : σ 2 2 = w 0 2 := by rw [← h1]; exact (cv0 (by decide)).symm
  have isC := c_isCell (d := 58) (σ := σ) (o := 2) (T := T) (c := a) hG.W_2 hcw ha
  rw [e2] at isC
  have isM : ∀ σ1, MI σ1 w H s B I → Ca 59 yX6_isCell [vR (some 166), vI a] g σ1 [vI (b2 (0 ≤ a ∧ a < w 0 2))] g σ1 := fun σ1 hm => by
    have := c_misCell (d := 57) (σ := σ1) (T := T) (c := a) hG (by rw [hm.1]; exact hw) ha
    rw [hm.1] at this
    exact this
  by_cases hin : 0 ≤ a ∧ a < w 0 2
  · obtain ⟨c, rfl⟩ := Int.eq_ofNat_of_zero_le hin.1
    have hc9 : c < 9 := by omega
    have hnd := hw.nd hc9
    have hw3 := wb3 hw hc9
    have hsb := stt_bd hw (by omega) c
    have hyes : ¬ b2 (0 ≤ (c : Int) ∧ (c : Int) < w 0 2) = 0 := by rw [b2_t hin]; decide
    have x1 : w 1 c = σ 3 c := by rw [← h1]; exact cv1 hc9
    have x2 : w 2 c = σ 4 c := by rw [← h1]; exact cv2 hc9
    have x3 : w 3 c = σ 5 c := by rw [← h1]; exact cv3 hc9
    by_cases b4 : b = 4
    · subst b4
      refine pc_mk (hbh w c) hM (rO (by have := hbh_bd hw h200 hc9; omega) (by have := hbh_bd hw h200 hc9; omega)) (hok.le (by omega)) ?_ (fun σ1 hm => ?_)
      · obtain ⟨t, a1, a2, a3⟩ := c_harmBehind (d := 54) hG hc hw h200 (by omega) hc9
        refine ⟨t, ca_in cd_X5_cell bd_X5_cell rfl (by decide) (Nat.le_of_ble_eq_true rfl) (fun Q P hP hQ => ?_), a2, a3⟩
        exact k_X5_cell_0 hP _ _ hG ⟨_, isC, b2_iR _, fun _ => ⟨by decide, fun z => absurd z (by decide), fun z => absurd z (by decide), fun z => absurd z (by decide), fun z => absurd z (by decide), fun z => absurd z (by decide), fun _ => ⟨_, t, a1, hQ⟩⟩, fun z => absurd hyes z⟩
      · obtain ⟨t, a1, a2, a3⟩ := c_mharmBehind (d := 54) hG hm hw h200 (by omega) hin.2
        refine ⟨t, ca_in cd_X6_cell bd_X6_cell rfl (by decide) (Nat.le_of_ble_eq_true rfl) (fun Q P hP hQ => ?_), a2, a3⟩
        exact k_X6_cell_0 hP _ _ hG ⟨_, isM σ1 hm, b2_iR _, fun _ => ⟨by decide, fun z => absurd z (by decide), fun z => absurd z (by decide), fun z => absurd z (by decide), fun z => absurd z (by decide), fun z => absurd z (by decide), fun _ => ⟨_, t, a1, hQ⟩⟩, fun z => absurd hyes z⟩
    · refine pc_mk (if b = 0 then w 1 c else if b = 1 then w 2 c else if b = 2 then w 3 c else if b = 3 then stt w c else -1000000002) hM ?_ (hok.le (by omega)) ⟨σ, ca_in cd_X5_cell bd_X5_cell rfl (by decide) (Nat.le_of_ble_eq_true rfl) (fun Q P hP hQ => ?_), hc, FrC.rf⟩ (fun σ1 hm => ⟨σ1, ca_in cd_X6_cell bd_X6_cell rfl (by decide) (Nat.le_of_ble_eq_true rfl) (fun Q P hP hQ => ?_), hm, FrM.rf⟩)
      · (repeat' split) <;> exact rO (by omega) (by omega)
      · have hst := c_stt (d := 56) (σ := σ) (o := 2) (T := T) (c := c) hG.W_2 hcw (by omega) hc9
        rw [h1] at hst
        refine k_X5_cell_0 hP _ _ hG ⟨_, isC, b2_iR _, fun _ => ⟨hb, fun z => ?_, fun z => ⟨⟨by omega, by omega⟩, ?_⟩, fun z => ⟨⟨by omega, by omega⟩, ?_⟩, fun z => ⟨⟨by omega, by omega⟩, ?_⟩, fun z => ⟨_, hst, ?_⟩, fun z => absurd z b4⟩, fun z => absurd hyes z⟩
        · rw [if_neg (by omega), if_neg (by omega), if_neg (by omega), if_neg (by omega)] at hQ; exact hQ
        · rw [if_pos z, x1] at hQ; exact hQ
        · rw [if_neg (by omega), if_pos z, x2] at hQ; exact hQ
        · rw [if_neg (by omega), if_neg (by omega), if_pos z, x3] at hQ; exact hQ
        · rw [if_neg (by omega), if_neg (by omega), if_neg (by omega), if_pos z] at hQ; exact hQ
      · have y1 : w 1 c = σ1 167 (25 + c) := by rw [← hm.1, m_nd hc9, Nat.zero_add]
        have y2 : w 2 c = σ1 167 (34 + c) := by rw [← hm.1, m_bg hc9, Nat.zero_add]
        have y3 : w 3 c = σ1 167 (43 + c) := by rw [← hm.1, m_dn hc9, Nat.zero_add]
        have hst := c_mbeg (d := 56) (σ := σ1) (r := 0) (T := T) (c := c) hG (by rw [hm.1]; exact hw) (by omega) (by decide) (by rw [hm.1]; exact hin.2)
        rw [hm.1] at hst
        refine k_X6_cell_0 hP _ _ hG ⟨_, isM σ1 hm, b2_iR _, fun _ => ⟨hb, fun z => ?_, fun z => ⟨⟨by omega, by omega⟩, ?_⟩, fun z => ⟨⟨by omega, by omega⟩, ?_⟩, fun z => ⟨⟨by omega, by omega⟩, ?_⟩, fun z => ⟨_, hst, ?_⟩, fun z => absurd z b4⟩, fun z => absurd hyes z⟩
        · rw [if_neg (by omega), if_neg (by omega), if_neg (by omega), if_neg (by omega)] at hQ; exact hQ
        · rw [if_pos z, y1] at hQ; rw [show ((25 : Int) + (c : Int)).toNat = 25 + c by omega]; exact hQ
        · rw [if_neg (by omega), if_pos z, y2] at hQ; rw [show ((34 : Int) + (c : Int)).toNat = 34 + c by omega]; exact hQ
        · rw [if_neg (by omega), if_neg (by omega), if_pos z, y3] at hQ; rw [show ((43 : Int) + (c : Int)).toNat = 43 + c by omega]; exact hQ
        · rw [if_neg (by omega), if_neg (by omega), if_neg (by omega), if_pos z] at hQ; exact hQ
  · have hno : b2 (0 ≤ a ∧ a < w 0 2) = 0 := b2_f hin
    refine pc_mk (-1000000001) hM (by decide) (hok.le (by omega)) ⟨σ, ca_in cd_X5_cell bd_X5_cell rfl (by decide) (Nat.le_of_ble_eq_true rfl) (fun Q P hP hQ => ?_), hc, FrC.rf⟩ (fun σ1 hm => ⟨σ1, ca_in cd_X6_cell bd_X6_cell rfl (by decide) (Nat.le_of_ble_eq_true rfl) (fun Q P hP hQ => ?_), hm, FrM.rf⟩)
    · exact k_X5_cell_0 hP _ _ hG ⟨_, isC, b2_iR _, fun z => absurd hno z, fun _ => hQ⟩
    · exact k_X6_cell_0 hP _ _ hG ⟨_, isM σ1 hm, b2_iR _, fun z => absurd hno z, fun _ => hQ⟩
theorem acI_edge {w : Wl} (hw : wOK T w) {a : Int} (h : ¬ acI w a = -1) : 0 ≤ a ∧ a < 27 := by
  have hcl := hw.cells
  unfold acI at h
  split at h
  · exact absurd rfl h
  · rename_i h0
    have := (acr_cell hw h).2
    omega
theorem pc_edge {a b : Int} (hG : gAll g) (h200 : 200 ≤ T) (hT : T ≤ 80000) (ha : iR a) (hb : iR b) : PC g T (T + 60) yX5_edge yX6_edge [vI a, vI b] := by
  intro σ w H s B I hok hc hM
  obtain ⟨⟨hw, hs⟩, hH, hsd, hB, hI⟩ := id hok
  have h1 := hc.1
  have hcw : wOK T (cv σ 2) := by rw [h1]; exact hw
  have isC := c_isEdge (d := 57) (σ := σ) (o := 2) (T := T) (e := a) hG.W_2 hcw ha
  rw [h1] at isC
  have isM : ∀ σ1, MI σ1 w H s B I → Ca 59 yX6_beyond [vR (some 166), vI 0, vI a] g σ1 [vI (acI w a)] g σ1 := fun σ1 hm => by
    have := c_mbey (d := 57) (σ := σ1) (r := 0) (T := T) (e := a) hG (by rw [hm.1]; exact hw) (by decide) ha
    rw [hm.1] at this
    exact this
  have iA := acI_iR hw a
  by_cases hin : acI w a = -1
  · have hno : b2 (¬ acI w a = -1) = 0 := b2_f (fun z => z hin)
    refine pc_mk (-1000000001) hM (by decide) (hok.le (by omega)) ⟨σ, ca_in cd_X5_edge bd_X5_edge rfl (by decide) (Nat.le_of_ble_eq_true rfl) (fun Q P hP hQ => ?_), hc, FrC.rf⟩ (fun σ1 hm => ⟨σ1, ca_in cd_X6_edge bd_X6_edge rfl (by decide) (Nat.le_of_ble_eq_true rfl) (fun Q P hP hQ => ?_), hm, FrM.rf⟩)
    · exact k_X5_edge_0 hP _ _ hG ⟨_, isC, b2_iR _, fun z => absurd hno z, fun _ => hQ⟩
    · exact k_X6_edge_0 hP _ _ hG ⟨_, isM σ1 hm, iA, fun z => absurd hin z, fun _ => hQ⟩
  · have hyes : ¬ b2 (¬ acI w a = -1) = 0 := by rw [b2_t hin]; decide
    have hr := acI_edge hw hin
    obtain ⟨e, rfl⟩ := Int.eq_ofNat_of_zero_le hr.1
    have he : e < 27 := by omega
    have hlb := lef_bd hw (by omega) he
    refine pc_mk (if b = 0 then b2 (opn w e) else if b = 1 then b2 (jnt w e) else if b = 2 then lef w e else -1000000002) hM ?_ (hok.le (by omega)) ⟨σ, ca_in cd_X5_edge bd_X5_edge rfl (by decide) (Nat.le_of_ble_eq_true rfl) (fun Q P hP hQ => ?_), hc, FrC.rf⟩ (fun σ1 hm => ⟨σ1, ca_in cd_X6_edge bd_X6_edge rfl (by decide) (Nat.le_of_ble_eq_true rfl) (fun Q P hP hQ => ?_), hm, FrM.rf⟩)
    · split
      · exact b2_iR _
      · split
        · exact b2_iR _
        · split
          · exact rO (by omega) (by omega)
          · decide
    · have co := c_opn (d := 57) (σ := σ) (o := 2) (T := T) (e := e) hG.W_2 hcw (by omega) he
      have cj := c_jnt (d := 56) (σ := σ) (o := 2) (T := T) (e := e) hG.W_2 hcw (by omega) he
      have cl := c_lef (d := 55) (σ := σ) (o := 2) (T := T) (e := e) hG.W_2 hcw (by omega) he
      rw [h1] at co cj cl
      refine k_X5_edge_0 hP _ _ hG ⟨_, isC, b2_iR _, fun _ => ⟨hb, fun z => ?_, fun z => ⟨_, co, b2_iR _, fun y => ?_, fun y => ?_⟩, fun z => ⟨_, cj, b2_iR _, fun y => ?_, fun y => ?_⟩, fun z => ⟨_, cl, ?_⟩⟩, fun z => absurd hyes z⟩
      · rw [if_neg (by omega), if_neg (by omega), if_neg (by omega)] at hQ; exact hQ
      · rw [if_pos z, y] at hQ; exact hQ
      · have hy : opn w e := b2_1 y
        rw [if_pos z, b2_t hy] at hQ; exact hQ
      · rw [if_neg (by omega), if_pos z, y] at hQ; exact hQ
      · have hy : jnt w e := b2_1 y
        rw [if_neg (by omega), if_pos z, b2_t hy] at hQ; exact hQ
      · rw [if_neg (by omega), if_neg (by omega), if_pos z] at hQ; exact hQ
    · have hmw : wOK T (mv σ1 0) := by rw [hm.1]; exact hw
      have co := c_mopn (d := 56) (σ := σ1) (r := 0) (T := T) (e := e) hG hmw (by omega) (by decide) he
      have cj := c_mjnt (d := 56) (σ := σ1) (r := 0) (T := T) (e := e) hG hmw (by omega) (by decide) he
      have cl := c_mlef (d := 55) (σ := σ1) (T := T) (e := e) hG hmw (by omega) he
      rw [hm.1] at co cj cl
      refine k_X6_edge_0 hP _ _ hG ⟨_, isM σ1 hm, iA, fun _ => ⟨hb, fun z => ?_, fun z => ⟨_, co, b2_iR _, fun y => ?_, fun y => ?_⟩, fun z => ⟨_, cj, b2_iR _, fun y => ?_, fun y => ?_⟩, fun z => ⟨_, cl, ?_⟩⟩, fun z => absurd hin z⟩
      · rw [if_neg (by omega), if_neg (by omega), if_neg (by omega)] at hQ; exact hQ
      · rw [if_pos z, y] at hQ; exact hQ
      · have hy : opn w e := b2_1 y
        rw [if_pos z, b2_t hy] at hQ; exact hQ
      · rw [if_neg (by omega), if_pos z, y] at hQ; exact hQ
      · have hy : jnt w e := b2_1 y
        rw [if_neg (by omega), if_pos z, b2_t hy] at hQ; exact hQ
      · rw [if_neg (by omega), if_neg (by omega), if_pos z] at hQ; exact hQ
theorem mlt_iR {w : Wl} {k : Nat} : iR (mlt w k) := by
  unfold mlt
  split
  · decide
  · have := mxU_bd (mlF w k (by assumption : Int × Int × (Nat → Int)).1) 12
    exact rO (by omega) (by omega)
theorem pc_truckAt {a b : Int} (hG : gAll g) (h200 : 200 ≤ T) (hT : T ≤ 80000) (ha : iR a) (hb : iR b) : PC g T (T + 60) yX5_truckAt yX6_truckAt [vI a, vI b] := by
  intro σ w H s B I hok hc hM
  obtain ⟨⟨hw, hs⟩, hH, hsd, hB, hI⟩ := id hok
  have h1 := hc.1
  have hcw : wOK T (cv σ 2) := by rw [h1]; exact hw
  have hnt := hw.nt
  have e2 : σ 2 7 = w 0 7 := by rw [← h1]; exact (cv0 (by decide)).symm
  have isC := c_isTruck (d := 58) (σ := σ) (o := 2) (T := T) (c := a) hG.W_2 hcw ha
  rw [e2] at isC
  have isM : ∀ σ1, MI σ1 w H s B I → Ca 59 yX6_isTruck [vR (some 166), vI a] g σ1 [vI (b2 (0 ≤ a ∧ a < w 0 7))] g σ1 := fun σ1 hm => by
    have := c_misTruck (d := 57) (σ := σ1) (T := T) (c := a) hG (by rw [hm.1]; exact hw) ha
    rw [hm.1] at this
    exact this
  by_cases hin : 0 ≤ a ∧ a < w 0 7
  · obtain ⟨c, rfl⟩ := Int.eq_ofNat_of_zero_le hin.1
    have hc9 : c < 9 := by omega
    have htr := hw.tr hc9
    have hyes : ¬ b2 (0 ≤ (c : Int) ∧ (c : Int) < w 0 7) = 0 := by rw [b2_t hin]; decide
    have x1 : w 4 c = σ 6 c := by rw [← h1]; exact cv4 hc9
    have x2 : w 5 c = σ 7 c := by rw [← h1]; exact cv5 hc9
    by_cases b4 : b = 2
    · subst b4
      refine pc_mk (mlt w c) hM mlt_iR (hok.le (by omega)) ?_ (fun σ1 hm => ?_)
      · obtain ⟨t, a1, a2, a3⟩ := c_mayBeLate (d := 43) hG hc hw hs h200 (by omega) hin.2
        refine ⟨t, ca_in cd_X5_truckAt bd_X5_truckAt rfl (by decide) (Nat.le_of_ble_eq_true rfl) (fun Q P hP hQ => ?_), a2, a3⟩
        exact k_X5_truckAt_0 hP _ _ hG ⟨_, isC, b2_iR _, fun _ => ⟨by decide, fun z => absurd z (by decide), fun z => absurd z (by decide), fun z => absurd z (by decide), fun _ => ⟨_, t, a1, hQ⟩⟩, fun z => absurd hyes z⟩
      · obtain ⟨t, a1, a2, a3⟩ := c_mmayBeLate (d := 51) hG hm hw hs h200 (by omega) hin.2
        refine ⟨t, ca_in cd_X6_truckAt bd_X6_truckAt rfl (by decide) (Nat.le_of_ble_eq_true rfl) (fun Q P hP hQ => ?_), a2, a3⟩
        exact k_X6_truckAt_0 hP _ _ hG ⟨_, isM σ1 hm, b2_iR _, fun _ => ⟨by decide, fun z => absurd z (by decide), fun z => absurd z (by decide), fun z => absurd z (by decide), fun _ => ⟨_, t, a1, hQ⟩⟩, fun z => absurd hyes z⟩
    · refine pc_mk (if b = 0 then w 4 c else if b = 1 then w 5 c else -1000000002) hM ?_ (hok.le (by omega)) ⟨σ, ca_in cd_X5_truckAt bd_X5_truckAt rfl (by decide) (Nat.le_of_ble_eq_true rfl) (fun Q P hP hQ => ?_), hc, FrC.rf⟩ (fun σ1 hm => ⟨σ1, ca_in cd_X6_truckAt bd_X6_truckAt rfl (by decide) (Nat.le_of_ble_eq_true rfl) (fun Q P hP hQ => ?_), hm, FrM.rf⟩)
      · (repeat' split) <;> exact rO (by omega) (by omega)
      · refine k_X5_truckAt_0 hP _ _ hG ⟨_, isC, b2_iR _, fun _ => ⟨hb, fun z => ?_, fun z => ⟨⟨by omega, by omega⟩, ?_⟩, fun z => ⟨⟨by omega, by omega⟩, ?_⟩, fun z => absurd z b4⟩, fun z => absurd hyes z⟩
        · rw [if_neg (by omega), if_neg (by omega)] at hQ; exact hQ
        · rw [if_pos z, x1] at hQ; exact hQ
        · rw [if_neg (by omega), if_pos z, x2] at hQ; exact hQ
      · have y1 : w 4 c = σ1 167 (7 + c) := by rw [← hm.1, m_tt hc9, Nat.zero_add]
        have y2 : w 5 c = σ1 167 (16 + c) := by rw [← hm.1, m_tl hc9, Nat.zero_add]
        refine k_X6_truckAt_0 hP _ _ hG ⟨_, isM σ1 hm, b2_iR _, fun _ => ⟨hb, fun z => ?_, fun z => ⟨⟨by omega, by omega⟩, ?_⟩, fun z => ⟨⟨by omega, by omega⟩, ?_⟩, fun z => absurd z b4⟩, fun z => absurd hyes z⟩
        · rw [if_neg (by omega), if_neg (by omega)] at hQ; exact hQ
        · rw [if_pos z, y1] at hQ; rw [show ((7 : Int) + (c : Int)).toNat = 7 + c by omega]; exact hQ
        · rw [if_neg (by omega), if_pos z, y2] at hQ; rw [show ((16 : Int) + (c : Int)).toNat = 16 + c by omega]; exact hQ
  · have hno : b2 (0 ≤ a ∧ a < w 0 7) = 0 := b2_f hin
    refine pc_mk (-1000000001) hM (by decide) (hok.le (by omega)) ⟨σ, ca_in cd_X5_truckAt bd_X5_truckAt rfl (by decide) (Nat.le_of_ble_eq_true rfl) (fun Q P hP hQ => ?_), hc, FrC.rf⟩ (fun σ1 hm => ⟨σ1, ca_in cd_X6_truckAt bd_X6_truckAt rfl (by decide) (Nat.le_of_ble_eq_true rfl) (fun Q P hP hQ => ?_), hm, FrM.rf⟩)
    · exact k_X5_truckAt_0 hP _ _ hG ⟨_, isC, b2_iR _, fun z => absurd hno z, fun _ => hQ⟩
    · exact k_X6_truckAt_0 hP _ _ hG ⟨_, isM σ1 hm, b2_iR _, fun z => absurd hno z, fun _ => hQ⟩
/-- the cells of the best order -/
theorem bst_cells {w : Wl} (hw : wOK T w) {q : Int × Int × (Nat → Int)} (hb : bst w = some q) {j : Nat} (hj : j < (un w).toNat) : 0 ≤ q.2.2 j ∧ q.2.2 j < w 0 2 :=
  exG_cells (C := w 0 2) (un w).toNat w (fun _ => 0) 0 none rfl (fun j h => by omega) (fun q h => nomatch h) q hb j (by omega)
theorem bC_iR {w : Wl} (hw : wOK T w) (a : Int) : iR (bC (un w) (bst w) a) := by
  have hcl := hw.cells
  have hub := un_bd hw
  unfold bC
  split
  · decide
  · rename_i q hb
    split
    · have := bst_cells hw hb (j := a.toNat) (by omega)
      exact rO (by omega) (by omega)
    · decide
theorem pc_best {a : Int} (hG : gAll g) (h200 : 200 ≤ T) (hT : T ≤ 80000) (ha : iR a) : PC g T (T + 60) yX5_best yX6_best [vI a] := by
  intro σ w H s B I hok hc hM
  obtain ⟨⟨hw, hs⟩, hH, hsd, hB, hI⟩ := id hok
  have hub := un_bd hw
  refine pc_mk (bC (un w) (bst w) a) hM (bC_iR hw a) (hok.le (by omega)) ?_ (fun σ1 hm => ?_)
  · obtain ⟨t, a1, a2, a3, a4⟩ := c_plan (d := 45) hG hc hw hs h200 (by omega)
    exact ⟨t, ca_in cd_X5_best bd_X5_best rfl (by decide) (Nat.le_of_ble_eq_true rfl) (fun Q P hP hQ => k_X5_best_0 hP _ hG ⟨t, a1, _, c_cellAt (d := 58) hG.P_14 hw a3 ha, hQ⟩), a2, fun x hx => a4 x (by omega) (by omega)⟩
  · obtain ⟨t, b1, b2', b3⟩ := c_finds (d := 52) (σ := σ1) (T := T) hG (by rw [hm.1]; exact hw) h200 (by omega)
    rw [hm.1] at b2'
    have hr := b2'.r (by omega)
    have hr8 : -1 ≤ t 166 8 ∧ t 166 8 ≤ 9 := by
      cases hb : bst w with
      | none => rw [hb] at b2'; have := b2'.1; omega
      | some q => rw [hb] at b2'; have := b2'.1; omega
    refine ⟨t, ca_in cd_X6_best bd_X6_best rfl (by decide) (Nat.le_of_ble_eq_true rfl) (fun Q P hP hQ => ?_), hm.fk b3, b3.frM⟩
    refine k_X6_best_0 hP _ hG ⟨t, b1, ha, rO (by omega) (by omega), _, c_in (d := 58) (jRi ha) (by decide) (jRi (rO (by omega) (by omega))), b2_iR _, fun z => ?_, fun z => ?_⟩
    · have zz := b2_0 z
      cases hb : bst w with
      | none => rw [hb] at hQ; exact hQ
      | some q =>
        rw [hb] at hQ b2'
        have := b2'.1
        rw [bC, if_neg (by omega)] at hQ
        exact hQ
    · have zz : 0 ≤ a ∧ a ≤ t 166 8 - 1 := b2_1 z
      cases hb : bst w with
      | none => rw [hb] at b2'; have := b2'.1; omega
      | some q =>
        rw [hb] at hQ b2'
        have h8 := b2'.1
        rw [bC, if_pos (by omega)] at hQ
        refine ⟨⟨by omega, by omega⟩, ?_⟩
        rw [b2'.2.2.2.2.2 a.toNat (by omega)]
        exact hQ
theorem spS_ok {w : Wl} (hw : wOK T w) (h200 : 200 ≤ T) {o : Nat → Int} {N : Nat} (ho : ∀ j, j < N → 0 ≤ o j ∧ o j < w 0 2) : ∀ i, i ≤ N → wOK (T + 3 * i) (spS w o i).1 ∧ (spS w o i).1 0 2 = w 0 2 ∧ (0 ≤ (spS w o i).2.1 ∧ (spS w o i).2.1 ≤ 243 ∧ (spS w o i).2.1 ≤ stp (spS w o i).1) ∧ (0 ≤ (spS w o i).2.2 ∧ (spS w o i).2.2 ≤ i)
  | 0, _ => by
    have := stp_bd hw
    refine ⟨hw.le (by omega), rfl, ⟨?_, ?_, Int.le_refl _⟩, ?_⟩
    · show 0 ≤ stp w; omega
    · show stp w ≤ 243; omega
    · show 0 ≤ (0 : Int) ∧ (0 : Int) ≤ _; omega
  | i + 1, hi => by
    obtain ⟨h1, h2, h3, h4⟩ := spS_ok hw h200 ho i (by omega)
    have hcl := hw.cells
    have hoi := ho i (by omega)
    have hf := fil_ok h1 (by omega) (c := (o i).toNat) (by omega)
    have hsb := stp_bd hf
    have e2 : fil (spS w o i).1 (o i).toNat 0 2 = w 0 2 := by rw [fil_n (by decide), h2]
    have hf2 : wOK (T + 3 * ((i + 1 : Nat) : Int)) (fil (spS w o i).1 (o i).toNat) := hf.le (by omega)
    rw [spS]
    split
    · refine ⟨hf2, e2, ⟨?_, ?_, Int.le_refl _⟩, ?_⟩
      · show 0 ≤ stp (fil (spS w o i).1 (o i).toNat); omega
      · show stp (fil (spS w o i).1 (o i).toNat) ≤ 243; omega
      · show 0 ≤ (i : Int) + 1 ∧ (i : Int) + 1 ≤ _; omega
    · refine ⟨hf2, e2, ⟨h3.1, h3.2.1, ?_⟩, ?_⟩
      · show (spS w o i).2.1 ≤ stp (fil (spS w o i).1 (o i).toNat); omega
      · show 0 ≤ (spS w o i).2.2 ∧ (spS w o i).2.2 ≤ _; omega
theorem pc_stop {a : Int} (hG : gAll g) (h200 : 200 ≤ T) (hT : T ≤ 80000) (ha : iR a) : PC g T (T + 60) yX5_stop yX6_stop [vI a] := by
  intro σ w H s B I hok hc hM
  obtain ⟨⟨hw, hs⟩, hH, hsd, hB, hI⟩ := id hok
  have hub := un_bd hw
  have hcl := hw.cells
  have wi := fun σ => c_within (d := 58) (g := g) (σ := σ) (a := a) (b := 0) (c := 1) ha (by decide) (by decide)
  have mi := fun σ => c_in (d := 58) (g := g) (σ := σ) (a := a) (b := 0) (c := 1) (jRi ha) (by decide) (by decide)
  by_cases hin : 0 ≤ a ∧ a ≤ 1
  · have hyes : ¬ b2 (0 ≤ a ∧ a ≤ 1) = 0 := by rw [b2_t hin]; decide
    obtain ⟨t, a1, a2, a3, a4⟩ := c_plan (d := 45) hG hc hw hs h200 (by omega)
    have ft : FrC σ t := fun x hx => a4 x (by omega) (by omega)
    have fin := fun σ1 (hm : MI σ1 w H s B I) => c_finds (d := 52) (σ := σ1) (T := T) hG (by rw [hm.1]; exact hw) h200 (by omega)
    cases hb : bst w with
    | none =>
      refine pc_mk (-1) hM (by decide) (hok.le (by omega)) ⟨t, ca_in cd_X5_stop bd_X5_stop rfl (by decide) (Nat.le_of_ble_eq_true rfl) (fun Q P hP hQ => ?_), a2, ft⟩ (fun σ1 hm => ?_)
      · have h0 := a3.none hb
        exact k_X5_stop_0 hP _ hG ⟨_, wi σ, b2_iR _, fun _ => ⟨t, a1, by rw [h0]; decide, fun z => absurd h0 z, fun _ => hQ⟩, fun z => absurd hyes z⟩
      · obtain ⟨u, b1, b2', b3⟩ := fin σ1 hm
        rw [hm.1] at b2'
        have hr := b2'.r (by omega)
        refine ⟨u, ca_in cd_X6_stop bd_X6_stop rfl (by decide) (Nat.le_of_ble_eq_true rfl) (fun Q P hP hQ => ?_), hm.fk b3, b3.frM⟩
        exact k_X6_stop_0 hP _ hG ⟨ha, _, mi σ1, b2_iR _, fun _ => ⟨u, b1, hr.1, fun z => absurd (hr.2.2.1.mpr hb) z, fun _ => hQ⟩, fun z => absurd hyes z⟩
    | some q =>
      have ho : ∀ j, j < (un w).toNat → 0 ≤ q.2.2 j ∧ q.2.2 j < w 0 2 := fun j hj => bst_cells hw hb hj
      have hspN := spS_ok hw h200 ho (un w).toNat (Nat.le_refl _)
      refine pc_mk (if a = 0 then (spS w q.2.2 (un w).toNat).2.1 else (spS w q.2.2 (un w).toNat).2.2) hM (by split <;> exact rO (by omega) (by omega)) (hok.le (by omega)) ?_ (fun σ1 hm => ?_)
      · obtain ⟨t1, c1', c2, c3⟩ := c_copyFrom (d := 57) (σ := t) (o := 8) (a := 2) hG.W_8 hG.W_2 (by decide)
        rw [a2.1] at c2
        have hk1 : plK t1 14 w := a3.co (fun x h1 h2 => c3 x (by omega))
        have hci1 : CI t1 w H s B I := a2.co (fun x hx => c3 x (by omega))
        have hf1 : FrC σ t1 := ft.tr (fun x hx => c3 x (by omega))
        have loop : ∀ (m i : Nat) (u : pM), i + m = (un w).toNat → cv u 8 = (spS w q.2.2 i).1 → plK u 14 w → CI u w H s B I → FrC σ u → ∃ σ2, CI σ2 w H s B I ∧ FrC σ σ2 ∧ ∀ (Q : pQ) (P : pP), Clo (pCall 59) yX5_stop cX5_stop (some .int) 7 0 0 Q P → Q [vI (if a = 0 then (spS w q.2.2 (un w).toNat).2.1 else (spS w q.2.2 (un w).toNat).2.2)] g σ2 → P 51 [(0, vR (some 1)), (1, vI a), (2, vR (some 14)), (3, vI (spS w q.2.2 i).2.1), (4, vI (spS w q.2.2 i).2.2), (5, vI (i : Int))] [] g u 0 0 := by
          intro m
          induction m with
          | zero =>
            intro i u hi hcu hku hciu hfu
            obtain rfl : i = (un w).toNat := by omega
            refine ⟨u, hciu, hfu, fun Q P hP hQ => ?_⟩
            refine k_X5_stop_51 hP _ _ _ _ hG ?_
            rw [hku.2]
            refine ⟨rO (by omega) (by omega), rO (by omega) (by omega), fun _ => ⟨ha, fun z => ?_, fun z => ?_⟩, fun z => absurd (by omega) z⟩
            · rw [if_neg z] at hQ; exact hQ
            · rw [if_pos (Decidable.not_not.mp z)] at hQ; exact hQ
          | succ m ih =>
            intro i u hi hcu hku hciu hfu
            have hsp := spS_ok hw h200 ho i (by omega)
            have hoi := ho i (by omega)
            obtain ⟨c, hcc⟩ := Int.eq_ofNat_of_zero_le hoi.1
            have hc9 : c < 9 := by omega
            have hca := c_cellAt (d := 58) (σ := u) (i := (i : Int)) hG.P_14 hw hku (rO (by omega) (by omega))
            have ebc : bC (un w) (bst w) (i : Int) = (c : Int) := by
              rw [hb, bC, if_pos (by omega), Int.toNat_natCast, hcc]
            rw [ebc] at hca
            obtain ⟨u2, f1, f2, f3⟩ := c_fill (d := 55) (σ := u) (o := 8) (T := T + 3 * i) (c := c) hG.W_8 (by rw [hcu]; exact hsp.1) (by omega) hc9
            rw [hcu] at f2
            have ecn : (q.2.2 i).toNat = c := by omega
            have e1 : (spS w q.2.2 (i + 1)).1 = fil (spS w q.2.2 i).1 c := by
              rw [spS, ecn]; split <;> rfl
            have hfo := fil_ok hsp.1 (by omega) hc9
            have hst := c_stopped (d := 55) (σ := u2) (o := 8) (T := T + 3 * i + 3) hG.W_8 (by rw [f2]; exact hfo) (by omega)
            rw [f2] at hst
            have hsb := stp_bd hfo
            have all : ∀ x, (x < 8 ∨ 13 < x) → u2 x = u x := fun x hx => f3 x (by omega)
            obtain ⟨σ2, r1, r2, r3⟩ := ih (i + 1) u2 (by omega) (by rw [f2, e1]) (hku.co (fun x h1 h2 => all x (by omega))) (hciu.co (fun x hx => all x (by omega))) (hfu.tr (fun x hx => all x (by omega)))
            refine ⟨σ2, r1, r2, fun Q P hP hQ => ?_⟩
            have h51 := r3 Q P hP hQ
            refine k_X5_stop_51 hP _ _ _ _ hG ?_
            rw [hku.2]
            refine ⟨rO (by omega) (by omega), rO (by omega) (by omega), fun z => absurd z (by omega), fun _ => ⟨_, hca, u2, f1, _, hst, rO (by omega) (by omega), rO (by omega) (by omega), fun z => ?_, fun z => ?_⟩⟩
            · rw [spS, ecn, if_neg (by omega)] at h51; exact h51
            · rw [spS, ecn, if_pos (by omega)] at h51; exact h51
        obtain ⟨σ2, r1, r2, r3⟩ := loop (un w).toNat 0 t1 (by omega) c2 hk1 hci1 hf1
        have hst := c_stopped (d := 55) (σ := t1) (o := 8) (T := T) hG.W_8 (by rw [c2]; exact hw) (by omega)
        rw [c2] at hst
        refine ⟨σ2, ca_in cd_X5_stop bd_X5_stop rfl (by decide) (Nat.le_of_ble_eq_true rfl) (fun Q P hP hQ => ?_), r1, r2⟩
        have h0 := (a3.some hb).1
        exact k_X5_stop_0 hP _ hG ⟨_, wi σ, b2_iR _, fun _ => ⟨t, a1, by rw [h0]; decide, fun _ => ⟨t1, c1', _, hst, r3 Q P hP hQ⟩, fun z => absurd (by rw [h0]; decide) z⟩, fun z => absurd hyes z⟩
      · obtain ⟨u, b1, b2', b3⟩ := fin σ1 hm
        rw [hm.1, hb] at b2'
        obtain ⟨u1, d1, d2, d3, -⟩ := c_mcopy (d := 58) (σ := u) (p := 0) (q := 52) hG (by decide) (by decide) (by decide)
        have hmu := hm.fk b3
        rw [hmu.1] at d2
        have hne : ¬ u 166 8 = -1 := by rw [b2'.1]; omega
        have hiu : iR (u 166 8) := by rw [b2'.1]; exact rO (by omega) (by omega)
        have loop : ∀ (m i : Nat) (v : pM), i + m = (un w).toNat → mv v 52 = (spS w q.2.2 i).1 → v 166 8 = u 166 8 → v 172 = u 172 → Fk σ1 v → ∃ σ2, Fk σ1 σ2 ∧ ∀ (Q : pQ) (P : pP), Clo (pCall 59) yX6_stop cX6_stop (some .int) 7 0 0 Q P → Q [vI (if a = 0 then (spS w q.2.2 (un w).toNat).2.1 else (spS w q.2.2 (un w).toNat).2.2)] g σ2 → P 47 [(0, vR (some 166)), (1, vI a), (2, vI (spS w q.2.2 i).2.1), (3, vI (spS w q.2.2 i).2.2), (4, vI (i : Int))] [] g v 0 0 := by
          intro m
          induction m with
          | zero =>
            intro i v hi hcu h8 h172 hfk
            obtain rfl : i = (un w).toNat := by omega
            refine ⟨v, hfk, fun Q P hP hQ => ?_⟩
            refine k_X6_stop_47 hP _ _ _ _ hG ?_
            rw [h8, b2'.1]
            refine ⟨rO (by omega) (by omega), rO (by omega) (by omega), fun _ => ⟨ha, fun z => ?_, fun z => ?_⟩, fun z => absurd (by omega) z⟩
            · rw [if_neg z] at hQ; exact hQ
            · rw [if_pos (Decidable.not_not.mp z)] at hQ; exact hQ
          | succ m ih =>
            intro i v hi hcu h8 h172 hfk
            have hsp := spS_ok hw h200 ho i (by omega)
            have hoi := ho i (by omega)
            obtain ⟨c, hcc⟩ := Int.eq_ofNat_of_zero_le hoi.1
            have hc9 : c < 9 := by omega
            have ecn : (q.2.2 i).toNat = c := by omega
            have e172 : v 172 i = (c : Int) := by rw [h172, b2'.2.2.2.2.2 i (by omega), hcc]
            obtain ⟨v2, f1, f2, f3⟩ := c_mpours (d := 55) (σ := v) (r := 52) (T := T + 3 * i) (c := c) hG (by rw [hcu]; exact hsp.1) (by omega) (by decide) (by rw [hcu, hsp.2.1]; omega)
            rw [hcu] at f1 f2
            have e1 : (spS w q.2.2 (i + 1)).1 = fil (spS w q.2.2 i).1 c := by
              rw [spS, ecn]; split <;> rfl
            have hfo := fil_ok hsp.1 (by omega) hc9
            have hsb := stp_bd hfo
            have hst : Ca 59 yX6_harm [vR (some 166), vI 52, vI 1] g v2 [vI (stp (fil (spS w q.2.2 i).1 c))] g v2 := by
              have := c_mharm (d := 55) (s := true) (σ := v2) (r := 52) (T := T + 3 * i + 3) hG (by rw [f2]; exact hfo) (by omega) (by decide)
              rw [f2] at this
              exact this
            obtain ⟨σ2, r1, r3⟩ := ih (i + 1) v2 (by omega) (by rw [f2, e1]) (by rw [f3.1 166 (by decide), h8]) (by rw [f3.1 172 (by decide), h172]) (hfk.tr (Fk.m f3))
            refine ⟨σ2, r1, fun Q P hP hQ => ?_⟩
            have h47 := r3 Q P hP hQ
            have ix : iR (spS w q.2.2 i).2.1 := rO (by omega) (by omega)
            refine k_X6_stop_47 hP _ _ _ _ hG ?_
            rw [h8, b2'.1, Int.toNat_natCast, e172]
            refine ⟨rO (by omega) (by omega), rO (by omega) (by omega), fun z => absurd z (by omega), fun _ => ⟨⟨by omega, by omega⟩, _, v2, f1, b2_iR _, fun z => ⟨ix, ix, fun _ => ⟨ix, ix, fun _ => ?_, fun y => absurd (Int.le_refl _) y⟩, fun y => absurd (Int.le_refl _) y⟩, fun z => ⟨_, hst, rO (by omega) (by omega), ix, fun y => ⟨rO (by omega) (by omega), ix, fun _ => ?_, fun y2 => absurd y y2⟩, fun y => ⟨rO (by omega) (by omega), ix, fun y2 => absurd y2 y, fun _ => ?_⟩⟩⟩⟩
            · have hno : stt (spS w q.2.2 i).1 c = -1 := Decidable.not_not.mp (b2_0 z)
              have ef : fil (spS w q.2.2 i).1 c = (spS w q.2.2 i).1 := by rw [fil, if_pos hno]
              rw [spS, ecn, ef, if_neg (by omega)] at h47
              exact h47
            · rw [spS, ecn, if_neg (by omega)] at h47; exact h47
            · rw [spS, ecn, if_pos (by omega)] at h47; exact h47
        obtain ⟨σ2, r1, r3⟩ := loop (un w).toNat 0 u1 (by omega) d2 (by rw [d3.1 166 (by decide)]) (d3.1 172 (by decide)) (b3.tr (Fk.m d3))
        have hst : Ca 59 yX6_harm [vR (some 166), vI 52, vI 1] g u1 [vI (stp w)] g u1 := by
          have := c_mharm (d := 55) (s := true) (σ := u1) (r := 52) (T := T) hG (by rw [d2]; exact hw) (by omega) (by decide)
          rw [d2] at this
          exact this
        refine ⟨σ2, ca_in cd_X6_stop bd_X6_stop rfl (by decide) (Nat.le_of_ble_eq_true rfl) (fun Q P hP hQ => ?_), hm.fk r1, r1.frM⟩
        exact k_X6_stop_0 hP _ hG ⟨ha, _, mi σ1, b2_iR _, fun _ => ⟨u, b1, hiu, fun _ => ⟨u1, d1, _, hst, r3 Q P hP hQ⟩, fun z => absurd hne z⟩, fun z => absurd hyes z⟩
  · have hno : b2 (0 ≤ a ∧ a ≤ 1) = 0 := b2_f hin
    refine pc_mk (-1000000002) hM (by decide) (hok.le (by omega)) ⟨σ, ca_in cd_X5_stop bd_X5_stop rfl (by decide) (Nat.le_of_ble_eq_true rfl) (fun Q P hP hQ => ?_), hc, FrC.rf⟩ (fun σ1 hm => ⟨σ1, ca_in cd_X6_stop bd_X6_stop rfl (by decide) (Nat.le_of_ble_eq_true rfl) (fun Q P hP hQ => ?_), hm, FrM.rf⟩)
    · exact k_X5_stop_0 hP _ hG ⟨_, wi σ, b2_iR _, fun z => absurd hno z, fun _ => hQ⟩
    · exact k_X6_stop_0 hP _ hG ⟨ha, _, mi σ1, b2_iR _, fun z => absurd hno z, fun _ => hQ⟩
end S6
