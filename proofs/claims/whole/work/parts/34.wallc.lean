/-! The class's wall: sums over edges, sets, and what it writes -/
theorem kk_X4_copyFrom_0 {d : Nat} {Q : pQ} {P : pP} {g : pG} {σ : pM} (hP : Clo (pCall d) yX4_copyFrom cX4_copyFrom none 2 0 0 Q P) (o : Nat) (a : Nat) (hg : gWl g o) (ha : gWl g a) (h : P 8 [(0, vR (some o)), (1, vR (some a))] [] g (up2 σ o 0 (σ a 0)) 0 0) : P 0 [(0, vR (some o)), (1, vR (some a))] [] g σ 0 0 := by
  refine x_aloadn hP 1 0 dX4_copyFrom_0 rfl rfl mm0 ?_
  refine x_aloadn hP 2 1 dX4_copyFrom_1 rfl rfl mm1 ?_
  refine x_geti hP 5 dX4_copyFrom_2 rfl fl_RX4_41 ha.o (by decide) rfl ?_
  refine x_putf hP 8 dX4_copyFrom_5 rfl fl_RX4_41 hg.o (by decide) rfl rfl (fun hz => absurd hz (by decide)) ?_
  exact h
theorem kk_X4_copyFrom_8 {d : Nat} {Q : pQ} {P : pP} {g : pG} {σ : pM} (hP : Clo (pCall d) yX4_copyFrom cX4_copyFrom none 2 0 0 Q P) (o : Nat) (a : Nat) (hg : gWl g o) (ha : gWl g a) (h : P 16 [(0, vR (some o)), (1, vR (some a))] [] g (up2 σ o 1 (σ a 1)) 0 0) : P 8 [(0, vR (some o)), (1, vR (some a))] [] g σ 0 0 := by
  refine x_aloadn hP 9 0 dX4_copyFrom_8 rfl rfl mm0 ?_
  refine x_aloadn hP 10 1 dX4_copyFrom_9 rfl rfl mm1 ?_
  refine x_geti hP 13 dX4_copyFrom_10 rfl fl_RX4_44 ha.o (by decide) rfl ?_
  refine x_putf hP 16 dX4_copyFrom_13 rfl fl_RX4_44 hg.o (by decide) rfl rfl (fun hz => absurd hz (by decide)) ?_
  exact h
theorem kk_X4_copyFrom_16 {d : Nat} {Q : pQ} {P : pP} {g : pG} {σ : pM} (hP : Clo (pCall d) yX4_copyFrom cX4_copyFrom none 2 0 0 Q P) (o : Nat) (a : Nat) (hg : gWl g o) (ha : gWl g a) (h : P 24 [(0, vR (some o)), (1, vR (some a))] [] g (up2 σ o 2 (σ a 2)) 0 0) : P 16 [(0, vR (some o)), (1, vR (some a))] [] g σ 0 0 := by
  refine x_aloadn hP 17 0 dX4_copyFrom_16 rfl rfl mm0 ?_
  refine x_aloadn hP 18 1 dX4_copyFrom_17 rfl rfl mm1 ?_
  refine x_geti hP 21 dX4_copyFrom_18 rfl fl_RX4_53 ha.o (by decide) rfl ?_
  refine x_putf hP 24 dX4_copyFrom_21 rfl fl_RX4_53 hg.o (by decide) rfl rfl (fun hz => absurd hz (by decide)) ?_
  exact h
theorem kk_X4_copyFrom_24 {d : Nat} {Q : pQ} {P : pP} {g : pG} {σ : pM} (hP : Clo (pCall d) yX4_copyFrom cX4_copyFrom none 2 0 0 Q P) (o : Nat) (a : Nat) (hg : gWl g o) (ha : gWl g a) (h : P 32 [(0, vR (some o)), (1, vR (some a))] [] g (up2 σ o 3 (σ a 3)) 0 0) : P 24 [(0, vR (some o)), (1, vR (some a))] [] g σ 0 0 := by
  refine x_aloadn hP 25 0 dX4_copyFrom_24 rfl rfl mm0 ?_
  refine x_aloadn hP 26 1 dX4_copyFrom_25 rfl rfl mm1 ?_
  refine x_geti hP 29 dX4_copyFrom_26 rfl fl_RX4_56 ha.o (by decide) rfl ?_
  refine x_putf hP 32 dX4_copyFrom_29 rfl fl_RX4_56 hg.o (by decide) rfl rfl (fun hz => absurd hz (by decide)) ?_
  exact h
theorem kk_X4_copyFrom_32 {d : Nat} {Q : pQ} {P : pP} {g : pG} {σ : pM} (hP : Clo (pCall d) yX4_copyFrom cX4_copyFrom none 2 0 0 Q P) (o : Nat) (a : Nat) (hg : gWl g o) (ha : gWl g a) (h : P 40 [(0, vR (some o)), (1, vR (some a))] [] g (up2 σ o 4 (σ a 4)) 0 0) : P 32 [(0, vR (some o)), (1, vR (some a))] [] g σ 0 0 := by
  refine x_aloadn hP 33 0 dX4_copyFrom_32 rfl rfl mm0 ?_
  refine x_aloadn hP 34 1 dX4_copyFrom_33 rfl rfl mm1 ?_
  refine x_geti hP 37 dX4_copyFrom_34 rfl fl_RX4_9 ha.o (by decide) rfl ?_
  refine x_putf hP 40 dX4_copyFrom_37 rfl fl_RX4_9 hg.o (by decide) rfl rfl (fun hz => absurd hz (by decide)) ?_
  exact h
theorem kk_X4_copyFrom_40 {d : Nat} {Q : pQ} {P : pP} {g : pG} {σ : pM} (hP : Clo (pCall d) yX4_copyFrom cX4_copyFrom none 2 0 0 Q P) (o : Nat) (a : Nat) (hg : gWl g o) (ha : gWl g a) (h : P 48 [(0, vR (some o)), (1, vR (some a))] [] g (up2 σ o 5 (σ a 5)) 0 0) : P 40 [(0, vR (some o)), (1, vR (some a))] [] g σ 0 0 := by
  refine x_aloadn hP 41 0 dX4_copyFrom_40 rfl rfl mm0 ?_
  refine x_aloadn hP 42 1 dX4_copyFrom_41 rfl rfl mm1 ?_
  refine x_geti hP 45 dX4_copyFrom_42 rfl fl_RX4_15 ha.o (by decide) rfl ?_
  refine x_putf hP 48 dX4_copyFrom_45 rfl fl_RX4_15 hg.o (by decide) rfl rfl (fun hz => absurd hz (by decide)) ?_
  exact h
theorem kk_X4_copyFrom_48 {d : Nat} {Q : pQ} {P : pP} {g : pG} {σ : pM} (hP : Clo (pCall d) yX4_copyFrom cX4_copyFrom none 2 0 0 Q P) (o : Nat) (a : Nat) (hg : gWl g o) (ha : gWl g a) (h : P 56 [(0, vR (some o)), (1, vR (some a))] [] g (up2 σ o 6 (σ a 6)) 0 0) : P 48 [(0, vR (some o)), (1, vR (some a))] [] g σ 0 0 := by
  refine x_aloadn hP 49 0 dX4_copyFrom_48 rfl rfl mm0 ?_
  refine x_aloadn hP 50 1 dX4_copyFrom_49 rfl rfl mm1 ?_
  refine x_geti hP 53 dX4_copyFrom_50 rfl fl_RX4_18 ha.o (by decide) rfl ?_
  refine x_putf hP 56 dX4_copyFrom_53 rfl fl_RX4_18 hg.o (by decide) rfl rfl (fun hz => absurd hz (by decide)) ?_
  exact h
theorem kk_X4_copyFrom_56 {d : Nat} {Q : pQ} {P : pP} {g : pG} {σ : pM} (hP : Clo (pCall d) yX4_copyFrom cX4_copyFrom none 2 0 0 Q P) (o : Nat) (a : Nat) (hg : gWl g o) (ha : gWl g a) (h : P 64 [(0, vR (some o)), (1, vR (some a))] [] g (up2 σ o 7 (σ a 7)) 0 0) : P 56 [(0, vR (some o)), (1, vR (some a))] [] g σ 0 0 := by
  refine x_aloadn hP 57 0 dX4_copyFrom_56 rfl rfl mm0 ?_
  refine x_aloadn hP 58 1 dX4_copyFrom_57 rfl rfl mm1 ?_
  refine x_geti hP 61 dX4_copyFrom_58 rfl fl_RX4_59 ha.o (by decide) rfl ?_
  refine x_putf hP 64 dX4_copyFrom_61 rfl fl_RX4_59 hg.o (by decide) rfl rfl (fun hz => absurd hz (by decide)) ?_
  exact h
theorem kk_X4_copyFrom_64 {d : Nat} {Q : pQ} {P : pP} {g : pG} {σ : pM} (hP : Clo (pCall d) yX4_copyFrom cX4_copyFrom none 2 0 0 Q P) (o : Nat) (a : Nat) (hg : gWl g o) (ha : gWl g a) (h : ∃ (s1 : pM), Ca d yX5_copyRow [vR (some (a + 1)), vR (some (o + 1))] g σ [] g s1 ∧ ∃ (s2 : pM), Ca d yX5_copyRow [vR (some (a + 2)), vR (some (o + 2))] g s1 [] g s2 ∧ ∃ (s3 : pM), Ca d yX5_copyRow [vR (some (a + 3)), vR (some (o + 3))] g s2 [] g s3 ∧ ∃ (s4 : pM), Ca d yX5_copyRow [vR (some (a + 4)), vR (some (o + 4))] g s3 [] g s4 ∧ ∃ (s5 : pM), Ca d yX5_copyRow [vR (some (a + 5)), vR (some (o + 5))] g s4 [] g s5 ∧ Q [] g s5) : P 64 [(0, vR (some o)), (1, vR (some a))] [] g σ 0 0 := by
  refine x_aloadn hP 65 1 dX4_copyFrom_64 rfl rfl mm1 ?_
  refine x_getr hP 68 (a + 1) dX4_copyFrom_65 rfl fl_RX4_21 ha.o (by decide) rfl ha.r1 ?_
  refine x_aloadn hP 69 0 dX4_copyFrom_68 rfl rfl mm0 ?_
  refine x_getr hP 72 (o + 1) dX4_copyFrom_69 rfl fl_RX4_21 hg.o (by decide) rfl hg.r1 ?_
  obtain ⟨s1, hc, h⟩ := h
  refine x_csn hP 75 [vR (some (a + 1)), vR (some (o + 1))] [] dX4_copyFrom_72 rfl ml_RX4_66 sm_X5_copyRow it_RX5 pp_X5_copyRow bd_X5_copyRow rfl rfl ⟨Nat.le_refl _, Nat.le_refl _⟩ (by simp [pC]) hc ?_
  refine x_aloadn hP 76 1 dX4_copyFrom_75 rfl rfl mm1 ?_
  refine x_getr hP 79 (a + 2) dX4_copyFrom_76 rfl fl_RX4_25 ha.o (by decide) rfl ha.r2 ?_
  refine x_aloadn hP 80 0 dX4_copyFrom_79 rfl rfl mm0 ?_
  refine x_getr hP 83 (o + 2) dX4_copyFrom_80 rfl fl_RX4_25 hg.o (by decide) rfl hg.r2 ?_
  obtain ⟨s2, hc, h⟩ := h
  refine x_csn hP 86 [vR (some (a + 2)), vR (some (o + 2))] [] dX4_copyFrom_83 rfl ml_RX4_66 sm_X5_copyRow it_RX5 pp_X5_copyRow bd_X5_copyRow rfl rfl ⟨Nat.le_refl _, Nat.le_refl _⟩ (by simp [pC]) hc ?_
  refine x_aloadn hP 87 1 dX4_copyFrom_86 rfl rfl mm1 ?_
  refine x_getr hP 90 (a + 3) dX4_copyFrom_87 rfl fl_RX4_28 ha.o (by decide) rfl ha.r3 ?_
  refine x_aloadn hP 91 0 dX4_copyFrom_90 rfl rfl mm0 ?_
  refine x_getr hP 94 (o + 3) dX4_copyFrom_91 rfl fl_RX4_28 hg.o (by decide) rfl hg.r3 ?_
  obtain ⟨s3, hc, h⟩ := h
  refine x_csn hP 97 [vR (some (a + 3)), vR (some (o + 3))] [] dX4_copyFrom_94 rfl ml_RX4_66 sm_X5_copyRow it_RX5 pp_X5_copyRow bd_X5_copyRow rfl rfl ⟨Nat.le_refl _, Nat.le_refl _⟩ (by simp [pC]) hc ?_
  refine x_aloadn hP 98 1 dX4_copyFrom_97 rfl rfl mm1 ?_
  refine x_getr hP 101 (a + 4) dX4_copyFrom_98 rfl fl_RX4_31 ha.o (by decide) rfl ha.r4 ?_
  refine x_aloadn hP 102 0 dX4_copyFrom_101 rfl rfl mm0 ?_
  refine x_getr hP 105 (o + 4) dX4_copyFrom_102 rfl fl_RX4_31 hg.o (by decide) rfl hg.r4 ?_
  obtain ⟨s4, hc, h⟩ := h
  refine x_csn hP 108 [vR (some (a + 4)), vR (some (o + 4))] [] dX4_copyFrom_105 rfl ml_RX4_66 sm_X5_copyRow it_RX5 pp_X5_copyRow bd_X5_copyRow rfl rfl ⟨Nat.le_refl _, Nat.le_refl _⟩ (by simp [pC]) hc ?_
  refine x_aloadn hP 109 1 dX4_copyFrom_108 rfl rfl mm1 ?_
  refine x_getr hP 112 (a + 5) dX4_copyFrom_109 rfl fl_RX4_34 ha.o (by decide) rfl ha.r5 ?_
  refine x_aloadn hP 113 0 dX4_copyFrom_112 rfl rfl mm0 ?_
  refine x_getr hP 116 (o + 5) dX4_copyFrom_113 rfl fl_RX4_34 hg.o (by decide) rfl hg.r5 ?_
  obtain ⟨s5, hc, h⟩ := h
  refine x_csn hP 119 [vR (some (a + 5)), vR (some (o + 5))] [] dX4_copyFrom_116 rfl ml_RX4_66 sm_X5_copyRow it_RX5 pp_X5_copyRow bd_X5_copyRow rfl rfl ⟨Nat.le_refl _, Nat.le_refl _⟩ (by simp [pC]) hc ?_
  exact x_vret hP dX4_copyFrom_119 ⟨Nat.le_refl _, Nat.le_refl _⟩ h
section W3
variable {d : Nat} {g : pG} {σ : pM} {o : Nat} {T : Int}
theorem acr_out {w : Wl} {e : Nat} (h : w 0 2 ≤ ((e / 3 : Nat) : Int)) : acr w e = -1 := by unfold acr; rw [if_neg (by omega)]
def fJ (w : Wl) : Nat → Int := fun e => if jnt w e then hof w e else 0
def fS (w : Wl) : Nat → Int := fun e => if opn w e ∨ jnt w e then hof w e else 0
def fN (w : Wl) : Nat → Int := fun e => if jnt w e then 1 else 0
def hrm (w : Wl) : Int := su (fJ w) 27
def stp (w : Wl) : Int := su (fS w) 27
def jts (w : Wl) : Int := su (fN w) 27
theorem e27 {w : Wl} (hw : wOK T w) (f : Nat → Int) (h : ∀ e, acr w e = -1 → f e = 0) : su f 27 = su f (3 * w 0 2).toNat := by
  have hc := hw.cells
  exact su_to (by omega) (fun k h1 h2 => h k (acr_out (by omega)))
theorem hof_bd {w : Wl} (hw : wOK T w) (e : Nat) : 0 ≤ hof w e ∧ hof w e ≤ 9 := by
  have := hw.hv; have := hw.lg
  unfold hof
  split <;> omega
theorem hrm_bd {w : Wl} (hw : wOK T w) : 0 ≤ hrm w ∧ hrm w ≤ 243 := by
  have h := su_bd (f := fJ w) (a := 0) (b := 9) (n := 27) (fun k _ => by have := hof_bd hw k; unfold fJ; split <;> omega)
  unfold hrm
  exact ⟨by simpa using h.1, by simpa using h.2⟩
theorem stp_bd {w : Wl} (hw : wOK T w) : 0 ≤ stp w ∧ stp w ≤ 243 := by
  have h := su_bd (f := fS w) (a := 0) (b := 9) (n := 27) (fun k _ => by have := hof_bd hw k; unfold fS; split <;> omega)
  unfold stp
  exact ⟨by simpa using h.1, by simpa using h.2⟩
theorem c_harm (hg : gWl g o) (hw : wOK T (cv σ o)) (hT : T ≤ 1000000) : Ca (d + 4) yX4_harm [vR (some o)] g σ [vI (hrm (cv σ o))] g σ := by
  refine ca_in cd_X4_harm bd_X4_harm rfl (by decide) (Nat.le_of_ble_eq_true rfl) (fun Q P hP hQ => ?_)
  have hr := hw.raw
  rw [hrm, e27 hw (fJ (cv σ o)) (fun e h => if_neg (fun q => q.1 h)), cv0 (show 2 < 8 by decide)] at hQ
  refine k_X4_harm_0 hP o hg ?_
  have loop : ∀ (m n : Nat), (n : Int) + m = 3 * σ o 2 → P 4 [(0, vR (some o)), (1, vI (su (fJ (cv σ o)) n)), (2, vI (n : Int))] [] g σ 0 0 := by
    intro m
    induction m with
    | zero =>
      intro n hn
      refine k_X4_harm_4 hP o _ _ hg ⟨_, c_edges hg, rO (by omega) (by omega), rO (by omega) (by omega), fun _ => ?_, fun h => absurd (by omega) h⟩
      rw [show n = (3 * σ o 2).toNat by omega]
      exact hQ
    | succ m ih =>
      intro n hn
      have h9 : n < 27 := by omega
      have hi := ih (n + 1) (by omega)
      rw [su] at hi
      refine k_X4_harm_4 hP o _ _ hg ⟨_, c_edges hg, rO (by omega) (by omega), rO (by omega) (by omega), fun h => absurd h (by omega), fun _ => ⟨_, c_jnt (d := d) hg hw hT h9, b2_iR _, fun h => ?_, fun h => ⟨_, c_hof hg h9, ?_⟩⟩⟩
      · rw [fJ, if_neg (b2_0 h), Int.add_zero] at hi
        exact hi
      · rw [show fJ (cv σ o) n = hof (cv σ o) n from if_pos (b2_1 h)] at hi
        exact hi
  exact loop (3 * σ o 2).toNat 0 (by omega)
theorem c_joints (hg : gWl g o) (hw : wOK T (cv σ o)) (hT : T ≤ 1000000) : Ca (d + 4) yX4_joints [vR (some o)] g σ [vI (jts (cv σ o))] g σ := by
  refine ca_in cd_X4_joints bd_X4_joints rfl (by decide) (Nat.le_of_ble_eq_true rfl) (fun Q P hP hQ => ?_)
  have hr := hw.raw
  rw [jts, e27 hw (fN (cv σ o)) (fun e h => if_neg (fun q => q.1 h)), cv0 (show 2 < 8 by decide)] at hQ
  refine k_X4_joints_0 hP o hg ?_
  have loop : ∀ (m n : Nat), (n : Int) + m = 3 * σ o 2 → P 4 [(0, vR (some o)), (1, vI (su (fN (cv σ o)) n)), (2, vI (n : Int))] [] g σ 0 0 := by
    intro m
    induction m with
    | zero =>
      intro n hn
      refine k_X4_joints_4 hP o _ _ hg ⟨_, c_edges hg, rO (by omega) (by omega), rO (by omega) (by omega), fun _ => ?_, fun h => absurd (by omega) h⟩
      rw [show n = (3 * σ o 2).toNat by omega]
      exact hQ
    | succ m ih =>
      intro n hn
      have h9 : n < 27 := by omega
      have hi := ih (n + 1) (by omega)
      rw [su] at hi
      refine k_X4_joints_4 hP o _ _ hg ⟨_, c_edges hg, rO (by omega) (by omega), rO (by omega) (by omega), fun h => absurd h (by omega), fun _ => ⟨_, c_jnt (d := d) hg hw hT h9, b2_iR _, fun h => ?_, fun h => ?_⟩⟩
      · rw [fN, if_neg (b2_0 h), Int.add_zero] at hi
        exact hi
      · rw [show fN (cv σ o) n = 1 from if_pos (b2_1 h)] at hi
        exact hi
  exact loop (3 * σ o 2).toNat 0 (by omega)
theorem c_stopped (hg : gWl g o) (hw : wOK T (cv σ o)) (hT : T ≤ 1000000) : Ca (d + 4) yX4_stoppedHarm [vR (some o)] g σ [vI (stp (cv σ o))] g σ := by
  refine ca_in cd_X4_stoppedHarm bd_X4_stoppedHarm rfl (by decide) (Nat.le_of_ble_eq_true rfl) (fun Q P hP hQ => ?_)
  have hr := hw.raw
  rw [stp, e27 hw (fS (cv σ o)) (fun e h => if_neg (fun q => q.elim (fun z => z.1 h) (fun z => z.1 h))), cv0 (show 2 < 8 by decide)] at hQ
  refine k_X4_stoppedHarm_0 hP o hg ?_
  have loop : ∀ (m n : Nat), (n : Int) + m = 3 * σ o 2 → P 4 [(0, vR (some o)), (1, vI (su (fS (cv σ o)) n)), (2, vI (n : Int))] [] g σ 0 0 := by
    intro m
    induction m with
    | zero =>
      intro n hn
      refine k_X4_stoppedHarm_4 hP o _ _ hg ⟨_, c_edges hg, rO (by omega) (by omega), rO (by omega) (by omega), fun _ => ?_, fun h => absurd (by omega) h⟩
      rw [show n = (3 * σ o 2).toNat by omega]
      exact hQ
    | succ m ih =>
      intro n hn
      have h9 : n < 27 := by omega
      have hi := ih (n + 1) (by omega)
      rw [su] at hi
      refine k_X4_stoppedHarm_4 hP o _ _ hg ⟨_, c_edges hg, rO (by omega) (by omega), rO (by omega) (by omega), fun h => absurd h (by omega), fun _ => ⟨_, c_opn (d := d + 1) hg hw hT h9, b2_iR _, fun h => ⟨_, c_hof hg h9, ?_⟩, fun h => ⟨_, c_jnt (d := d) hg hw hT h9, b2_iR _, fun h2 => ?_, fun h2 => ⟨_, c_hof hg h9, ?_⟩⟩⟩⟩
      · rw [show fS (cv σ o) n = hof (cv σ o) n from if_pos (Or.inl (b2_1 h))] at hi
        exact hi
      · rw [fS, if_neg (fun q => q.elim (b2_0 (Decidable.not_not.mp h)) (b2_0 h2)), Int.add_zero] at hi
        exact hi
      · rw [show fS (cv σ o) n = hof (cv σ o) n from if_pos (Or.inr (b2_1 h2))] at hi
        exact hi
  exact loop (3 * σ o 2).toNat 0 (by omega)
/-- which sets first -/
def ftp (w : Wl) : Nat → Int × Int
  | 0 => (-1, 1000000000)
  | e + 1 => if ¬ lef w e = -1000 ∧ lef w e < (ftp w e).2 then ((e : Int), lef w e) else ftp w e
theorem lef_bd {w : Wl} (hw : wOK T w) (hT : T ≤ 1000000) {e : Nat} (he : e < 27) : -1000000 ≤ lef w e ∧ lef w e ≤ 1000100 := by
  have := hw.ag; have := hw.tm
  unfold lef
  split
  · have h1 := hw.bd (c := e / 3) (by omega)
    have h2 := hw.nd (k := e / 3) (by omega)
    omega
  · omega
theorem ftp_bd {w : Wl} (hw : wOK T w) (hT : T ≤ 1000000) : ∀ {n : Nat}, n ≤ 27 → -1000000 ≤ (ftp w n).2 ∧ (ftp w n).2 ≤ 1000000000
  | 0, _ => by simp [ftp]
  | n + 1, h => by
    have h1 := ftp_bd hw hT (n := n) (by omega)
    have h2 := lef_bd hw hT (e := n) (by omega)
    unfold ftp
    split
    · exact ⟨h2.1, by show lef w n ≤ _; omega⟩
    · exact h1
theorem ftp_27 {w : Wl} (hw : wOK T w) : ∀ m : Nat, (3 * w 0 2).toNat + m ≤ 27 → ftp w ((3 * w 0 2).toNat + m) = ftp w (3 * w 0 2).toNat
  | 0, _ => rfl
  | m + 1, h => by
    have hc := hw.cells
    have ha := acr_out (w := w) (e := (3 * w 0 2).toNat + m) (by omega)
    rw [← Nat.add_assoc, ftp, if_neg (fun q => q.1 (by rw [lef, if_neg (fun z => z.1.1 ha)])), ftp_27 hw m (by omega)]
def fts (w : Wl) : Int := (ftp w 27).1
theorem c_fts (hg : gWl g o) (hw : wOK T (cv σ o)) (hT : T ≤ 1000000) : Ca (d + 5) yX4_firstToSet [vR (some o)] g σ [vI (fts (cv σ o))] g σ := by
  refine ca_in cd_X4_firstToSet bd_X4_firstToSet rfl (by decide) (Nat.le_of_ble_eq_true rfl) (fun Q P hP hQ => ?_)
  have hr := hw.raw
  have hc := hw.cells
  have e2 : cv σ o 0 2 = σ o 2 := cv0 (by decide)
  have e27 := ftp_27 hw (27 - (3 * cv σ o 0 2).toNat) (by omega)
  rw [show (3 * cv σ o 0 2).toNat + (27 - (3 * cv σ o 0 2).toNat) = 27 by omega, e2] at e27
  rw [fts, e27] at hQ
  refine k_X4_firstToSet_0 hP o hg ?_
  have loop : ∀ (m n : Nat), (n : Int) + m = 3 * σ o 2 → P 7 [(0, vR (some o)), (1, vI (ftp (cv σ o) n).1), (2, vI (ftp (cv σ o) n).2), (3, vI (n : Int))] [] g σ 0 0 := by
    intro m
    induction m with
    | zero =>
      intro n hn
      refine k_X4_firstToSet_7 hP o _ _ _ hg ⟨_, c_edges hg, rO (by omega) (by omega), rO (by omega) (by omega), fun _ => ?_, fun h => absurd (by omega) h⟩
      rw [show n = (3 * σ o 2).toNat by omega]
      exact hQ
    | succ m ih =>
      intro n hn
      have h9 : n < 27 := by omega
      have hi := ih (n + 1) (by omega)
      have hb := lef_bd hw hT h9
      have hf := ftp_bd hw hT (n := n) (by omega)
      rw [ftp] at hi
      refine k_X4_firstToSet_7 hP o _ _ _ hg ⟨_, c_edges hg, rO (by omega) (by omega), rO (by omega) (by omega), fun h => absurd h (by omega), fun _ => ⟨_, c_lef (d := d) hg hw hT h9, rO (by omega) (by omega), fun h => ?_, fun h => ⟨rO (by omega) (by omega), rO (by omega) (by omega), fun h2 => ?_, fun h2 => ?_⟩⟩⟩
      · rw [if_neg (fun q => q.1 h)] at hi
        exact hi
      · rw [if_neg (fun q => by omega)] at hi
        exact hi
      · rw [if_pos ⟨h, by omega⟩] at hi
        exact hi
  exact loop (3 * σ o 2).toNat 0 (by omega)
def pP1 (w : Wl) : Nat → Bool := fun c => !(w 2 c == -1)
def pC1 (w : Wl) : Nat → Bool := fun c => !(stt w c == -1)
theorem c_pset (hg : gWl g o) (hw : wOK T (cv σ o)) (hT : T ≤ 1000000) : Ca (d + 2) yX4_pouredSet [vR (some o)] g σ [vI (bs (pP1 (cv σ o)) (cv σ o 0 2).toNat : Int)] g σ := by
  refine ca_in cd_X4_pouredSet bd_X4_pouredSet rfl (by decide) (Nat.le_of_ble_eq_true rfl) (fun Q P hP hQ => ?_)
  have hr := hw.raw
  rw [cv0 (show 2 < 8 by decide)] at hQ
  refine k_X4_pouredSet_0 hP o hg ?_
  have loop : ∀ (m n : Nat), (n : Int) + m = σ o 2 → P 4 [(0, vR (some o)), (1, vI (bs (pP1 (cv σ o)) n : Int)), (2, vI (n : Int))] [] g σ 0 0 := by
    intro m
    induction m with
    | zero =>
      intro n hn
      refine k_X4_pouredSet_4 hP o _ _ hg ⟨rO (by omega) (by omega), rO (by omega) (by omega), fun _ => ?_, fun h => absurd (by omega) h⟩
      rw [show n = (σ o 2).toNat by omega]
      exact hQ
    | succ m ih =>
      intro n hn
      have h9 : n < 9 := by omega
      have hi := ih (n + 1) (by omega)
      rw [bs] at hi
      obtain ⟨b1, b2', b3⟩ := bit_in h9 (bs (pP1 (cv σ o)) n)
      refine k_X4_pouredSet_4 hP o _ _ hg ⟨rO (by omega) (by omega), rO (by omega) (by omega), fun h => absurd h (by omega), fun _ => ⟨_, c_isPn hg hw hT h9, b2_iR _, fun h => ?_, fun h => ⟨b1, b2', ?_⟩⟩⟩
      · have h2 := Decidable.not_not.mp (b2_0 h)
        rw [if_neg (by simp [pP1, h2])] at hi
        exact hi
      · have h2 := b2_1 h
        rw [if_pos (by simp [pP1, h2])] at hi
        rw [b3]
        exact hi
  exact loop (σ o 2).toNat 0 (by omega)
theorem c_pcount (hg : gWl g o) (hw : wOK T (cv σ o)) (hT : T ≤ 1000000) : Ca (d + 3) yX4_pouredCount [vR (some o)] g σ [vI (pcn (bs (pP1 (cv σ o)) (cv σ o 0 2).toNat) : Int)] g σ := by
  refine ca_in cd_X4_pouredCount bd_X4_pouredCount rfl (by decide) (Nat.le_of_ble_eq_true rfl) (fun Q P hP hQ => ?_)
  have hc := hw.cells
  exact k_X4_pouredCount_0 hP o hg ⟨_, c_pset (d := d) hg hw hT, _, c_bits (d := d + 1) (bs_512 _ (by omega)), hQ⟩
theorem c_cset (hg : gWl g o) (hw : wOK T (cv σ o)) (hT : T ≤ 1000000) : Ca (d + 4) yX4_canSet [vR (some o)] g σ [vI (bs (pC1 (cv σ o)) (cv σ o 0 2).toNat : Int)] g σ := by
  refine ca_in cd_X4_canSet bd_X4_canSet rfl (by decide) (Nat.le_of_ble_eq_true rfl) (fun Q P hP hQ => ?_)
  have hr := hw.raw
  rw [cv0 (show 2 < 8 by decide)] at hQ
  refine k_X4_canSet_0 hP o hg ?_
  have loop : ∀ (m n : Nat), (n : Int) + m = σ o 2 → P 4 [(0, vR (some o)), (1, vI (bs (pC1 (cv σ o)) n : Int)), (2, vI (n : Int))] [] g σ 0 0 := by
    intro m
    induction m with
    | zero =>
      intro n hn
      refine k_X4_canSet_4 hP o _ _ hg ⟨rO (by omega) (by omega), rO (by omega) (by omega), fun _ => ?_, fun h => absurd (by omega) h⟩
      rw [show n = (σ o 2).toNat by omega]
      exact hQ
    | succ m ih =>
      intro n hn
      have h9 : n < 9 := by omega
      have hi := ih (n + 1) (by omega)
      have hs := stt_bd hw (by omega) n
      rw [bs] at hi
      obtain ⟨b1, b2', b3⟩ := bit_in h9 (bs (pC1 (cv σ o)) n)
      refine k_X4_canSet_4 hP o _ _ hg ⟨rO (by omega) (by omega), rO (by omega) (by omega), fun h => absurd h (by omega), fun _ => ⟨_, c_stt (d := d) hg hw hT h9, rO (by omega) (by omega), fun h => ?_, fun h => ⟨b1, b2', ?_⟩⟩⟩
      · rw [if_neg (by simp [pC1, h])] at hi
        exact hi
      · rw [if_pos (by simp [pC1, h])] at hi
        rw [b3]
        exact hi
  exact loop (σ o 2).toNat 0 (by omega)
end W3
