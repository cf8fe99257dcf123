/-! The model's rows, three: edges and sets -/
section M3
variable {d : Nat} {g : pG} {σ : pM} {r : Nat} {T : Int}
theorem c_mbey {e : Int} (hG : gAll g) (hw : wOK T (mv σ r)) (hr : r + 52 ≤ 1300) (he : iR e) : Ca (d + 2) yX6_beyond [vR (some 166), vI (r : Int), vI e] g σ [vI (acI (mv σ r) e)] g σ := by
  refine ca_in cd_X6_beyond bd_X6_beyond rfl (by decide) (Nat.le_of_ble_eq_true rfl) (fun Q P hP hQ => ?_)
  have hcl := hw.cells
  have hst := hw.st
  have e0 : ((r : Int) + 0).toNat = r := by omega
  have e1 : ((r : Int) + 1).toNat = r + 1 := by omega
  have ec : mv σ r 0 2 = σ 167 r * σ 167 (r + 1) := m_cl
  have es : mv σ r 0 0 = σ 167 r := m_st
  have e3 : (3 * σ 167 r) * σ 167 (r + 1) = 3 * mv σ r 0 2 := by rw [ec, Int.mul_assoc]
  refine k_X6_beyond_0 hP _ e hG ?_
  rw [e0, e1, e3, ← ec]
  refine ⟨⟨by omega, by omega⟩, he, ⟨by omega, by omega⟩, rO (by omega) (by omega), _, c_in (d := d) (jRi he) (by decide) (jRi (rO (by omega) (by omega))), b2_iR _, fun h => ?_, fun h => ?_⟩
  · have hin := b2_1 h
    obtain ⟨n, rfl⟩ := Int.eq_ofNat_of_zero_le hin.1
    rw [acI_nat, acr, if_pos (by omega)] at hQ
    have m0 := Int.emod_nonneg ((n / 3 : Nat) : Int) (show σ 167 r ≠ 0 by omega)
    have m1 := Int.emod_lt_of_pos ((n / 3 : Nat) : Int) (show 0 < σ 167 r by omega)
    rw [tdiv3, tmod3, Int.tmod_eq_emod_of_nonneg (show (0 : Int) ≤ ((n / 3 : Nat) : Int) by omega)]
    rw [es] at hQ
    refine ⟨he, he, rO (by omega) (by omega), fun h1 => ⟨he, rO (by omega) (by omega), fun h2 => ⟨⟨rO (by omega) (by omega), rO (by omega) (by omega), by omega⟩, rO (by omega) (by omega), fun h3 => ?_, fun h3 => ?_⟩, fun h2 => ⟨⟨rO (by omega) (by omega), rO (by omega) (by omega), by omega⟩, rO (by omega) (by omega), rO (by omega) (by omega), fun h3 => ?_, fun h3 => ?_⟩⟩, fun h1 => ⟨⟨by omega, by omega⟩, rO (by omega) (by omega), rO (by omega) (by omega), fun h3 => ?_, fun h3 => ?_⟩⟩
    · rw [if_neg (by omega), if_neg (by omega), if_neg (by omega)] at hQ; exact hQ
    · rw [if_neg (by omega), if_neg (by omega), if_pos (by omega)] at hQ; exact hQ
    · rw [if_neg (by omega), if_pos (by omega), if_neg (by omega)] at hQ; exact hQ
    · rw [if_neg (by omega), if_pos (by omega), if_pos (by omega)] at hQ; exact hQ
    · rw [if_pos (by omega), if_neg (by omega)] at hQ; exact hQ
    · rw [if_pos (by omega), if_pos (by omega)] at hQ; exact hQ
  · have hout := b2_0 (Decidable.not_not.mp h)
    have e9 : acI (mv σ r) e = -1 := by
      unfold acI
      split
      · rfl
      · exact acr_out (by omega)
    rw [e9] at hQ
    exact hQ
theorem c_mopn {e : Nat} (hG : gAll g) (hw : wOK T (mv σ r)) (hT : T ≤ 90000) (hr : r + 52 ≤ 1300) (he : e < 27) : Ca (d + 3) yX6_isOpen [vR (some 166), vI (r : Int), vI (e : Int)] g σ [vI (b2 (opn (mv σ r) e))] g σ := by
  refine ca_in cd_X6_isOpen bd_X6_isOpen rfl (by decide) (Nat.le_of_ble_eq_true rfl) (fun Q P hP hQ => ?_)
  have ha := c_mbey (d := d) (e := (e : Int)) hG hw hr (rO (by omega) (by omega))
  rw [acI_nat] at ha
  have hb := acr_bd hw e
  refine k_X6_isOpen_0 hP _ _ hG ⟨_, ha, rO (by omega) (by omega), fun h => ?_, fun h => ⟨rO (by omega) (by omega), ?_⟩⟩
  · rwa [b2_f (fun q => q.1 h)] at hQ
  · rw [tdiv3]
    obtain ⟨n, hn⟩ := Int.eq_ofNat_of_zero_le (show 0 ≤ acr (mv σ r) e by omega)
    have hn9 : n < 9 := by omega
    refine ⟨_, c_mP (d := d + 1) hG hw (by omega) hr (acr_cell hw h).1, b2_iR _, fun h1 => ?_, fun h1 => ?_⟩
    · rwa [b2_f (fun q => b2_0 h1 q.2.1)] at hQ
    · have e2 : (acr (mv σ r) e).toNat = n := by omega
      rw [hn]
      refine ⟨_, c_mP (d := d + 1) hG hw (by omega) hr hn9, b2_iR _, fun h2 => ?_, fun h2 => ?_⟩
      · rwa [b2_f (fun q => b2_1 h2 (by rw [← e2]; exact q.2.2))] at hQ
      · rwa [b2_t ⟨h, b2_1 h1, by rw [e2]; exact Decidable.not_not.mp (b2_0 (Decidable.not_not.mp h2))⟩] at hQ
theorem c_mjnt {e : Nat} (hG : gAll g) (hw : wOK T (mv σ r)) (hT : T ≤ 90000) (hr : r + 52 ≤ 1300) (he : e < 27) : Ca (d + 3) yX6_isJoint [vR (some 166), vI (r : Int), vI (e : Int)] g σ [vI (b2 (jnt (mv σ r) e))] g σ := by
  refine ca_in cd_X6_isJoint bd_X6_isJoint rfl (by decide) (Nat.le_of_ble_eq_true rfl) (fun Q P hP hQ => ?_)
  have ha := c_mbey (d := d) (e := (e : Int)) hG hw hr (rO (by omega) (by omega))
  rw [acI_nat] at ha
  have hb := acr_bd hw e
  have htm := hw.tm
  have hag := hw.ag
  refine k_X6_isJoint_0 hP _ _ hG ⟨_, ha, rO (by omega) (by omega), fun h => ?_, fun h => ⟨rO (by omega) (by omega), ?_⟩⟩
  · rwa [b2_f (fun q => q.1 h)] at hQ
  · obtain ⟨n, hn⟩ := Int.eq_ofNat_of_zero_le (show 0 ≤ acr (mv σ r) e by omega)
    have hn9 : n < 9 := by omega
    have e2 : (acr (mv σ r) e).toNat = n := by omega
    have h3 := (acr_cell hw h).1
    have w3 := wb3 hw h3
    have wn := wb3 hw hn9
    rw [tdiv3, hn, show ((r : Int) + 2).toNat = r + 2 by omega, show ((r : Int) + 4).toNat = r + 4 by omega, show ((r : Int) + 43 + ((e / 3 : Nat) : Int)).toNat = r + 43 + e / 3 by omega, show ((r : Int) + 34 + (n : Int)).toNat = r + 34 + n by omega, ← m_tm (σ := σ) (r := r), ← m_ag (σ := σ) (r := r), ← m_dn (σ := σ) (r := r) h3, ← m_bg (σ := σ) (r := r) hn9]
    refine ⟨_, c_mP (d := d + 1) hG hw (by omega) hr h3, b2_iR _, fun h1 => ?_, fun h1 => ?_⟩
    · have h1 := b2_1 h1
      refine ⟨_, c_mP (d := d + 1) hG hw (by omega) hr hn9, b2_iR _, fun h2 => ?_, fun h2 => ?_⟩
      · have h2 := Decidable.not_not.mp (b2_0 h2)
        refine ⟨⟨by omega, by omega⟩, rO (by omega) (by omega), ⟨by omega, by omega⟩, ⟨by omega, by omega⟩, rO (by omega) (by omega), rO (by omega) (by omega), fun h4 => ?_, fun h4 => ?_⟩
        · rwa [b2_f (fun q => by have := q.2.2; rw [e2, if_pos h2] at this; omega)] at hQ
        · rwa [b2_t ⟨h, h1, by rw [e2, if_pos h2]; omega⟩] at hQ
      · have h2 := b2_1 h2
        refine ⟨⟨by omega, by omega⟩, rO (by omega) (by omega), ⟨by omega, by omega⟩, ⟨by omega, by omega⟩, rO (by omega) (by omega), rO (by omega) (by omega), fun h4 => ?_, fun h4 => ?_⟩
        · rwa [b2_f (fun q => by have := q.2.2; rw [e2, if_neg h2] at this; omega)] at hQ
        · rwa [b2_t ⟨h, h1, by rw [e2, if_neg h2]; omega⟩] at hQ
    · have h1 := b2_0 (Decidable.not_not.mp h1)
      rwa [b2_f (fun q => h1 q.2.1)] at hQ
/-- harm, stopped or not -/
theorem c_mharm {s : Bool} (hG : gAll g) (hw : wOK T (mv σ r)) (hT : T ≤ 90000) (hr : r + 52 ≤ 1300) : Ca (d + 4) yX6_harm [vR (some 166), vI (r : Int), vI (b2 (s = true))] g σ [vI (if s = true then stp (mv σ r) else hrm (mv σ r))] g σ := by
  refine ca_in cd_X6_harm bd_X6_harm rfl (by decide) (Nat.le_of_ble_eq_true rfl) (fun Q P hP hQ => ?_)
  refine k_X6_harm_0 hP _ _ hG ?_
  let F : Nat → Int := if s = true then fS (mv σ r) else fJ (mv σ r)
  have hF : (if s = true then stp (mv σ r) else hrm (mv σ r)) = su F 27 := by
    show _ = su (if s = true then fS (mv σ r) else fJ (mv σ r)) 27
    split <;> rfl
  rw [hF] at hQ
  have e5 : ((r : Int) + 5).toNat = r + 5 := by omega
  have e6 : ((r : Int) + 6).toNat = r + 6 := by omega
  have loop : ∀ (m n : Nat), n + m = 27 → P 5 [(0, vR (some 166)), (1, vI (r : Int)), (2, vI (b2 (s = true))), (3, vI (su F n)), (4, vI (n : Int))] [] g σ 0 0 := by
    intro m
    induction m with
    | zero =>
      intro n hn
      refine k_X6_harm_5 hP _ _ _ _ hG ⟨rO (by omega) (by omega), fun _ => ?_, fun h => absurd (by omega) h⟩
      rw [show n = 27 by omega]
      exact hQ
    | succ m ih =>
      intro n hn
      have h9 : n < 27 := by omega
      have hi := ih (n + 1) (by omega)
      rw [su] at hi
      have yes : F n = hof (mv σ r) n → iR (n : Int) ∧ iR (Int.tmod (n : Int) 3) ∧ (¬ (Int.tmod (n : Int) 3) = 0 → (0 ≤ ((r : Int) + 6) ∧ ((r : Int) + 6) < 1300) ∧ P 5 [(0, vR (some 166)), (1, vI (r : Int)), (2, vI (b2 (s = true))), (3, vI (su F n + (σ 167 (Int.toNat ((r : Int) + 6))))), (4, vI ((n : Int) + 1))] [] g σ 0 0) ∧ (¬ (¬ (Int.tmod (n : Int) 3) = 0) → (0 ≤ ((r : Int) + 5) ∧ ((r : Int) + 5) < 1300) ∧ P 5 [(0, vR (some 166)), (1, vI (r : Int)), (2, vI (b2 (s = true))), (3, vI (su F n + (σ 167 (Int.toNat ((r : Int) + 5))))), (4, vI ((n : Int) + 1))] [] g σ 0 0) := by
        intro hy
        rw [hy, hof] at hi
        rw [tmod3, e5, e6, ← m_hv (σ := σ) (r := r), ← m_lg (σ := σ) (r := r)]
        refine ⟨rO (by omega) (by omega), rO (by omega) (by omega), fun h => ⟨⟨by omega, by omega⟩, ?_⟩, fun h => ⟨⟨by omega, by omega⟩, ?_⟩⟩
        · rw [if_neg (by omega)] at hi; exact hi
        · rw [if_pos (by omega)] at hi; exact hi
      have no : F n = 0 → P 5 [(0, vR (some 166)), (1, vI (r : Int)), (2, vI (b2 (s = true))), (3, vI (su F n + 0)), (4, vI ((n : Int) + 1))] [] g σ 0 0 := by
        intro hy
        rw [hy] at hi
        exact hi
      refine k_X6_harm_5 hP _ _ _ _ hG ⟨rO (by omega) (by omega), fun h => absurd h (by omega), fun _ => ⟨_, c_mjnt (d := d) hG hw hT hr h9, b2_iR _, fun h => yes ?_, fun h => ⟨b2_iR _, fun h2 => no ?_, fun h2 => ⟨_, c_mopn (d := d) hG hw hT hr h9, b2_iR _, fun h3 => no ?_, fun h3 => yes ?_⟩⟩⟩⟩
      · have hj := b2_1 h
        show (if s = true then fS (mv σ r) else fJ (mv σ r)) n = _
        split
        · exact if_pos (Or.inr hj)
        · exact if_pos hj
      · have hj := b2_0 (Decidable.not_not.mp h)
        have hs := b2_0 h2
        show (if s = true then fS (mv σ r) else fJ (mv σ r)) n = _
        rw [if_neg hs]
        exact if_neg hj
      · have hj := b2_0 (Decidable.not_not.mp h)
        have hs := b2_1 h2
        have ho := b2_0 h3
        show (if s = true then fS (mv σ r) else fJ (mv σ r)) n = _
        rw [if_pos hs]
        exact if_neg (fun q => q.elim ho hj)
      · have hs := b2_1 h2
        have ho := b2_1 h3
        show (if s = true then fS (mv σ r) else fJ (mv σ r)) n = _
        rw [if_pos hs]
        exact if_pos (Or.inl ho)
  exact loop 27 0 rfl
theorem c_mlef {e : Nat} (hG : gAll g) (hw : wOK T (mv σ 0)) (hT : T ≤ 90000) (he : e < 27) : Ca (d + 4) yX6_left [vR (some 166), vI (e : Int)] g σ [vI (lef (mv σ 0) e)] g σ := by
  refine ca_in cd_X6_left bd_X6_left rfl (by decide) (Nat.le_of_ble_eq_true rfl) (fun Q P hP hQ => ?_)
  refine k_X6_left_0 hP _ hG ⟨_, c_mopn (d := d) (r := 0) hG hw hT (by decide) he, b2_iR _, fun h => ?_, fun h => ⟨_, c_mjnt (d := d) (r := 0) hG hw hT (by decide) he, b2_iR _, fun h1 => ?_, fun h1 => ⟨rO (by omega) (by omega), ?_⟩⟩⟩
  · rw [lef, if_neg (fun q => b2_0 h q.1)] at hQ
    exact hQ
  · rw [lef, if_neg (fun q => q.2 (b2_1 h1))] at hQ
    exact hQ
  · have h2 := b2_1 h
    have h3 := b2_0 (Decidable.not_not.mp h1)
    have h9 := (acr_cell hw h2.1).1
    rw [lef, if_pos ⟨h2, h3⟩, m_dn h9, m_tm, m_ag] at hQ
    rw [tdiv3, show ((43 : Int) + ((e / 3 : Nat) : Int)).toNat = 0 + 43 + e / 3 by omega]
    refine ⟨⟨by omega, by omega⟩, ?_⟩
    rw [show σ 167 4 - σ 167 2 + σ 167 (0 + 43 + e / 3) = σ 167 (0 + 4) - (σ 167 (0 + 2) - σ 167 (0 + 43 + e / 3)) by
      show σ 167 4 - σ 167 2 + _ = σ 167 4 - (σ 167 2 - _)
      omega]
    exact hQ
theorem ftp_rel {w : Wl} : ∀ n : Nat, ((ftp w n).1 = -1 ∧ (ftp w n).2 = 1000000000) ∨ ∃ j : Nat, j < n ∧ (ftp w n).1 = (j : Int) ∧ (ftp w n).2 = lef w j
  | 0 => Or.inl ⟨rfl, rfl⟩
  | n + 1 => by
    unfold ftp
    split
    · exact Or.inr ⟨n, by omega, rfl, rfl⟩
    · rcases ftp_rel (w := w) n with h | ⟨j, h1, h2, h3⟩
      · exact Or.inl h
      · exact Or.inr ⟨j, by omega, h2, h3⟩
theorem c_mfts (hG : gAll g) (hw : wOK T (mv σ 0)) (hT : T ≤ 90000) : Ca (d + 5) yX6_firstToSet [vR (some 166)] g σ [vI (fts (mv σ 0))] g σ := by
  refine ca_in cd_X6_firstToSet bd_X6_firstToSet rfl (by decide) (Nat.le_of_ble_eq_true rfl) (fun Q P hP hQ => ?_)
  refine k_X6_firstToSet_0 hP hG ?_
  have loop : ∀ (m n : Nat), n + m = 27 → P 4 [(0, vR (some 166)), (1, vI (ftp (mv σ 0) n).1), (2, vI (n : Int))] [] g σ 0 0 := by
    intro m
    induction m with
    | zero =>
      intro n hn
      refine k_X6_firstToSet_4 hP _ _ hG ⟨rO (by omega) (by omega), fun _ => ?_, fun h => absurd (by omega) h⟩
      rw [show n = 27 by omega]
      exact hQ
    | succ m ih =>
      intro n hn
      have h9 : n < 27 := by omega
      have hi := ih (n + 1) (by omega)
      have hb := lef_bd hw (by omega) h9
      rw [ftp] at hi
      have hrel := ftp_rel (w := mv σ 0) n
      refine k_X6_firstToSet_4 hP _ _ hG ⟨rO (by omega) (by omega), fun h => absurd h (by omega), fun _ => ⟨_, c_mlef (d := d) hG hw hT h9, rO (by omega) (by omega), fun h => ?_, fun h => ⟨?_, fun h2 => ?_, fun h2 => ?_⟩⟩⟩
      · rw [if_neg (fun q => q.1 h)] at hi
        exact hi
      · rcases hrel with h3 | ⟨j, h3, h4, h5⟩
        · rw [h3.1]; decide
        · rw [h4]; exact rO (by omega) (by omega)
      · rcases hrel with h3 | ⟨j, h3, h4, h5⟩
        · rw [if_pos ⟨h, by omega⟩] at hi
          exact hi
        · omega
      · rcases hrel with h3 | ⟨j, h3, h4, h5⟩
        · exact absurd h3.1 h2
        · have hbj := lef_bd hw (by omega) (show j < 27 by omega)
          rw [h4]
          refine ⟨_, c_mlef (d := d) hG hw hT h9, _, c_mlef (d := d) hG hw hT (by omega), rO (by omega) (by omega), rO (by omega) (by omega), fun h6 => ?_, fun h6 => ?_⟩
          · rw [if_neg (fun q => by omega), h4] at hi
            exact hi
          · rw [if_pos ⟨h, by omega⟩] at hi
            exact hi
  exact loop 27 0 rfl
theorem c_mjoints (hG : gAll g) (hw : wOK T (mv σ 0)) (hT : T ≤ 90000) : Ca (d + 4) yX6_joints [vR (some 166)] g σ [vI (jts (mv σ 0))] g σ := by
  refine ca_in cd_X6_joints bd_X6_joints rfl (by decide) (Nat.le_of_ble_eq_true rfl) (fun Q P hP hQ => ?_)
  refine k_X6_joints_0 hP hG ?_
  have loop : ∀ (m n : Nat), n + m = 27 → P 4 [(0, vR (some 166)), (1, vI (su (fN (mv σ 0)) n)), (2, vI (n : Int))] [] g σ 0 0 := by
    intro m
    induction m with
    | zero =>
      intro n hn
      refine k_X6_joints_4 hP _ _ hG ⟨rO (by omega) (by omega), fun _ => ?_, fun h => absurd (by omega) h⟩
      rw [show n = 27 by omega]
      exact hQ
    | succ m ih =>
      intro n hn
      have h9 : n < 27 := by omega
      have hi := ih (n + 1) (by omega)
      rw [su] at hi
      refine k_X6_joints_4 hP _ _ hG ⟨rO (by omega) (by omega), fun h => absurd h (by omega), fun _ => ⟨_, c_mjnt (d := d) (r := 0) hG hw hT (by decide) h9, b2_iR _, fun h => ?_, fun h => ?_⟩⟩
      · rw [show fN (mv σ 0) n = 0 from if_neg (b2_0 h)] at hi
        exact hi
      · rw [show fN (mv σ 0) n = 1 from if_pos (b2_1 h)] at hi
        exact hi
  exact loop 27 0 rfl
theorem c_mpset (hG : gAll g) (hw : wOK T (mv σ 0)) (hT : T ≤ 90000) : Ca (d + 2) yX6_poured [vR (some 166)] g σ [vI (bs (pP1 (mv σ 0)) (mv σ 0 0 2).toNat : Int)] g σ := by
  refine ca_in cd_X6_poured bd_X6_poured rfl (by decide) (Nat.le_of_ble_eq_true rfl) (fun Q P hP hQ => ?_)
  have hc := hw.cells
  refine k_X6_poured_0 hP hG ?_
  have loop : ∀ (m n : Nat), (n : Int) + m = mv σ 0 0 2 → P 4 [(0, vR (some 166)), (1, vI (bs (pP1 (mv σ 0)) n : Int)), (2, vI (n : Int))] [] g σ 0 0 := by
    intro m
    induction m with
    | zero =>
      intro n hn
      refine k_X6_poured_4 hP _ _ hG ⟨_, c_mcells hG, rO (by omega) (by omega), rO (by omega) (by omega), fun _ => ?_, fun h => absurd (by omega) h⟩
      rw [show n = (mv σ 0 0 2).toNat by omega]
      exact hQ
    | succ m ih =>
      intro n hn
      have h9 : n < 9 := by omega
      have hi := ih (n + 1) (by omega)
      rw [bs] at hi
      obtain ⟨b1, b2', b3⟩ := bit_in h9 (bs (pP1 (mv σ 0)) n)
      refine k_X6_poured_4 hP _ _ hG ⟨_, c_mcells hG, rO (by omega) (by omega), rO (by omega) (by omega), fun h => absurd h (by omega), fun _ => ⟨_, c_mP (r := 0) hG hw (by omega) (by decide) h9, b2_iR _, fun h => ⟨⟨by omega, by decide⟩, ?_⟩, fun h => ⟨b1, b2', ?_⟩⟩⟩
      · have h2 := Decidable.not_not.mp (b2_0 h)
        rw [if_neg (by simp [pP1, h2])] at hi
        rw [Int.toNat_natCast, show Int.toNat 0 = 0 from rfl, Nat.or_zero]
        exact hi
      · have h2 := b2_1 h
        rw [if_pos (by simp [pP1, h2])] at hi
        rw [b3]
        exact hi
  exact loop (mv σ 0 0 2).toNat 0 (by omega)
theorem c_mcset (hG : gAll g) (hw : wOK T (mv σ 0)) (hT : T ≤ 90000) : Ca (d + 4) yX6_can [vR (some 166)] g σ [vI (bs (pC1 (mv σ 0)) (mv σ 0 0 2).toNat : Int)] g σ := by
  refine ca_in cd_X6_can bd_X6_can rfl (by decide) (Nat.le_of_ble_eq_true rfl) (fun Q P hP hQ => ?_)
  have hc := hw.cells
  refine k_X6_can_0 hP hG ?_
  have loop : ∀ (m n : Nat), (n : Int) + m = mv σ 0 0 2 → P 4 [(0, vR (some 166)), (1, vI (bs (pC1 (mv σ 0)) n : Int)), (2, vI (n : Int))] [] g σ 0 0 := by
    intro m
    induction m with
    | zero =>
      intro n hn
      refine k_X6_can_4 hP _ _ hG ⟨_, c_mcells hG, rO (by omega) (by omega), rO (by omega) (by omega), fun _ => ?_, fun h => absurd (by omega) h⟩
      rw [show n = (mv σ 0 0 2).toNat by omega]
      exact hQ
    | succ m ih =>
      intro n hn
      have h9 : n < 9 := by omega
      have hi := ih (n + 1) (by omega)
      have hs := stt_bd hw (by have := hw.tm; omega) n
      rw [bs] at hi
      obtain ⟨b1, b2', b3⟩ := bit_in h9 (bs (pC1 (mv σ 0)) n)
      refine k_X6_can_4 hP _ _ hG ⟨_, c_mcells hG, rO (by omega) (by omega), rO (by omega) (by omega), fun h => absurd h (by omega), fun _ => ⟨_, c_mbeg (d := d) (r := 0) hG hw hT (by decide) (by omega), rO (by omega) (by omega), fun h => ⟨b1, b2', ?_⟩, fun h => ⟨⟨by omega, by decide⟩, ?_⟩⟩⟩
      · rw [if_pos (by simp [pC1, h])] at hi
        rw [b3]
        exact hi
      · rw [if_neg (by simp [pC1, Decidable.not_not.mp h])] at hi
        rw [Int.toNat_natCast, show Int.toNat 0 = 0 from rfl, Nat.or_zero]
        exact hi
  exact loop (mv σ 0 0 2).toNat 0 (by omega)
end M3
