/-! Walks, by program (wip/whole/gen.py) -/
theorem k_X4_raise_0 {d : Nat} {Q : pQ} {P : pP} {g : pG} {σ : pM} (hP : Clo (pCall d) yX4_raise cX4_raise none 3 0 0 Q P) (o : Nat) (a : Int) (b : Int) (hg : gWl g o) (h : ∃ (v1 : Int), Ca d yJ9_min_7cf53 [vI (a * b), vI 9] g (up2 (up2 σ o 0 a) o 1 b) [vI v1] g (up2 (up2 σ o 0 a) o 1 b) ∧ ∃ (s2 : pM), Ca d yX5_fillRow [vR (some (o + 1)), vI 1] g (up2 (up2 (up2 (up2 (up2 σ o 0 a) o 1 b) o 2 v1) o 3 0) o 7 0) [] g s2 ∧ ∃ (s3 : pM), Ca d yX5_fillRow [vR (some (o + 2)), vI ((-1))] g s2 [] g s3 ∧ ∃ (s4 : pM), Ca d yX5_fillRow [vR (some (o + 3)), vI ((-1))] g s3 [] g s4 ∧ Q [] g s4) : P 0 [(0, vR (some o)), (1, vI a), (2, vI b)] [] g σ 0 0 := by
  refine x_aloadn hP 1 0 dX4_raise_0 rfl rfl mm0 ?_
  refine x_iloadn hP 2 1 dX4_raise_1 rfl rfl mm1 ?_
  refine x_putf hP 5 dX4_raise_2 rfl fl_RX4_41 hg.o (by decide) rfl rfl (fun hz => absurd hz (by decide)) ?_
  refine x_aloadn hP 6 0 dX4_raise_5 rfl rfl mm0 ?_
  refine x_iloadn hP 7 2 dX4_raise_6 rfl rfl mm2 ?_
  refine x_putf hP 10 dX4_raise_7 rfl fl_RX4_44 hg.o (by decide) rfl rfl (fun hz => absurd hz (by decide)) ?_
  refine x_aloadn hP 11 0 dX4_raise_10 rfl rfl mm0 ?_
  refine x_iloadn hP 12 1 dX4_raise_11 rfl rfl mm1 ?_
  refine x_iloadn hP 13 2 dX4_raise_12 rfl rfl mm2 ?_
  refine x_imul hP 14 dX4_raise_13 rfl ?_
  refine x_bipush hP 16 dX4_raise_14 rfl (by decide) ?_
  obtain ⟨v1, hc, h⟩ := h
  refine x_cs hP 19 [vI (a * b), vI 9] [vR (some o)] dX4_raise_16 rfl ml_RX4_47 sm_J9_min_7cf53 it_RJ9 pp_J9_min_7cf53 bd_J9_min_7cf53 rfl rfl ⟨Nat.le_refl _, Nat.le_refl _⟩ (by simp [pC]) hc ?_
  refine x_putf hP 22 dX4_raise_19 rfl fl_RX4_53 hg.o (by decide) rfl rfl (fun hz => absurd hz (by decide)) ?_
  refine x_aloadn hP 23 0 dX4_raise_22 rfl rfl mm0 ?_
  refine x_iconst hP 24 dX4_raise_23 rfl ?_
  refine x_putf hP 27 dX4_raise_24 rfl fl_RX4_56 hg.o (by decide) rfl rfl (fun hz => absurd hz (by decide)) ?_
  refine x_aloadn hP 28 0 dX4_raise_27 rfl rfl mm0 ?_
  refine x_iconst hP 29 dX4_raise_28 rfl ?_
  refine x_putf hP 32 dX4_raise_29 rfl fl_RX4_59 hg.o (by decide) rfl rfl (fun hz => absurd hz (by decide)) ?_
  refine x_aloadn hP 33 0 dX4_raise_32 rfl rfl mm0 ?_
  refine x_getr hP 36 (o + 1) dX4_raise_33 rfl fl_RX4_21 hg.o (by decide) rfl hg.r1 ?_
  refine x_iconst hP 37 dX4_raise_36 rfl ?_
  obtain ⟨s2, hc, h⟩ := h
  refine x_csn hP 40 [vR (some (o + 1)), vI 1] [] dX4_raise_37 rfl ml_RX4_62 sm_X5_fillRow it_RX5 pp_X5_fillRow bd_X5_fillRow rfl rfl ⟨Nat.le_refl _, Nat.le_refl _⟩ (by simp [pC]) hc ?_
  refine x_aloadn hP 41 0 dX4_raise_40 rfl rfl mm0 ?_
  refine x_getr hP 44 (o + 2) dX4_raise_41 rfl fl_RX4_25 hg.o (by decide) rfl hg.r2 ?_
  refine x_iconst hP 45 dX4_raise_44 rfl ?_
  obtain ⟨s3, hc, h⟩ := h
  refine x_csn hP 48 [vR (some (o + 2)), vI ((-1))] [] dX4_raise_45 rfl ml_RX4_62 sm_X5_fillRow it_RX5 pp_X5_fillRow bd_X5_fillRow rfl rfl ⟨Nat.le_refl _, Nat.le_refl _⟩ (by simp [pC]) hc ?_
  refine x_aloadn hP 49 0 dX4_raise_48 rfl rfl mm0 ?_
  refine x_getr hP 52 (o + 3) dX4_raise_49 rfl fl_RX4_28 hg.o (by decide) rfl hg.r3 ?_
  refine x_iconst hP 53 dX4_raise_52 rfl ?_
  obtain ⟨s4, hc, h⟩ := h
  refine x_csn hP 56 [vR (some (o + 3)), vI ((-1))] [] dX4_raise_53 rfl ml_RX4_62 sm_X5_fillRow it_RX5 pp_X5_fillRow bd_X5_fillRow rfl rfl ⟨Nat.le_refl _, Nat.le_refl _⟩ (by simp [pC]) hc ?_
  exact x_vret hP dX4_raise_56 ⟨Nat.le_refl _, Nat.le_refl _⟩ h
theorem k_X4_copyFrom_0 {d : Nat} {Q : pQ} {P : pP} {g : pG} {σ : pM} (hP : Clo (pCall d) yX4_copyFrom cX4_copyFrom none 2 0 0 Q P) (o : Nat) (a : Nat) (hg : gWl g o) (ha : gWl g a) (h : ∃ (s1 : pM), Ca d yX5_copyRow [vR (some (a + 1)), vR (some (o + 1))] g (up2 (up2 (up2 (up2 (up2 (up2 (up2 (up2 σ o 0 (σ a 0)) o 1 ((up2 σ o 0 (σ a 0)) a 1)) o 2 ((up2 (up2 σ o 0 (σ a 0)) o 1 ((up2 σ o 0 (σ a 0)) a 1)) a 2)) o 3 ((up2 (up2 (up2 σ o 0 (σ a 0)) o 1 ((up2 σ o 0 (σ a 0)) a 1)) o 2 ((up2 (up2 σ o 0 (σ a 0)) o 1 ((up2 σ o 0 (σ a 0)) a 1)) a 2)) a 3)) o 4 ((up2 (up2 (up2 (up2 σ o 0 (σ a 0)) o 1 ((up2 σ o 0 (σ a 0)) a 1)) o 2 ((up2 (up2 σ o 0 (σ a 0)) o 1 ((up2 σ o 0 (σ a 0)) a 1)) a 2)) o 3 ((up2 (up2 (up2 σ o 0 (σ a 0)) o 1 ((up2 σ o 0 (σ a 0)) a 1)) o 2 ((up2 (up2 σ o 0 (σ a 0)) o 1 ((up2 σ o 0 (σ a 0)) a 1)) a 2)) a 3)) a 4)) o 5 ((up2 (up2 (up2 (up2 (up2 σ o 0 (σ a 0)) o 1 ((up2 σ o 0 (σ a 0)) a 1)) o 2 ((up2 (up2 σ o 0 (σ a 0)) o 1 ((up2 σ o 0 (σ a 0)) a 1)) a 2)) o 3 ((up2 (up2 (up2 σ o 0 (σ a 0)) o 1 ((up2 σ o 0 (σ a 0)) a 1)) o 2 ((up2 (up2 σ o 0 (σ a 0)) o 1 ((up2 σ o 0 (σ a 0)) a 1)) a 2)) a 3)) o 4 ((up2 (up2 (up2 (up2 σ o 0 (σ a 0)) o 1 ((up2 σ o 0 (σ a 0)) a 1)) o 2 ((up2 (up2 σ o 0 (σ a 0)) o 1 ((up2 σ o 0 (σ a 0)) a 1)) a 2)) o 3 ((up2 (up2 (up2 σ o 0 (σ a 0)) o 1 ((up2 σ o 0 (σ a 0)) a 1)) o 2 ((up2 (up2 σ o 0 (σ a 0)) o 1 ((up2 σ o 0 (σ a 0)) a 1)) a 2)) a 3)) a 4)) a 5)) o 6 ((up2 (up2 (up2 (up2 (up2 (up2 σ o 0 (σ a 0)) o 1 ((up2 σ o 0 (σ a 0)) a 1)) o 2 ((up2 (up2 σ o 0 (σ a 0)) o 1 ((up2 σ o 0 (σ a 0)) a 1)) a 2)) o 3 ((up2 (up2 (up2 σ o 0 (σ a 0)) o 1 ((up2 σ o 0 (σ a 0)) a 1)) o 2 ((up2 (up2 σ o 0 (σ a 0)) o 1 ((up2 σ o 0 (σ a 0)) a 1)) a 2)) a 3)) o 4 ((up2 (up2 (up2 (up2 σ o 0 (σ a 0)) o 1 ((up2 σ o 0 (σ a 0)) a 1)) o 2 ((up2 (up2 σ o 0 (σ a 0)) o 1 ((up2 σ o 0 (σ a 0)) a 1)) a 2)) o 3 ((up2 (up2 (up2 σ o 0 (σ a 0)) o 1 ((up2 σ o 0 (σ a 0)) a 1)) o 2 ((up2 (up2 σ o 0 (σ a 0)) o 1 ((up2 σ o 0 (σ a 0)) a 1)) a 2)) a 3)) a 4)) o 5 ((up2 (up2 (up2 (up2 (up2 σ o 0 (σ a 0)) o 1 ((up2 σ o 0 (σ a 0)) a 1)) o 2 ((up2 (up2 σ o 0 (σ a 0)) o 1 ((up2 σ o 0 (σ a 0)) a 1)) a 2)) o 3 ((up2 (up2 (up2 σ o 0 (σ a 0)) o 1 ((up2 σ o 0 (σ a 0)) a 1)) o 2 ((up2 (up2 σ o 0 (σ a 0)) o 1 ((up2 σ o 0 (σ a 0)) a 1)) a 2)) a 3)) o 4 ((up2 (up2 (up2 (up2 σ o 0 (σ a 0)) o 1 ((up2 σ o 0 (σ a 0)) a 1)) o 2 ((up2 (up2 σ o 0 (σ a 0)) o 1 ((up2 σ o 0 (σ a 0)) a 1)) a 2)) o 3 ((up2 (up2 (up2 σ o 0 (σ a 0)) o 1 ((up2 σ o 0 (σ a 0)) a 1)) o 2 ((up2 (up2 σ o 0 (σ a 0)) o 1 ((up2 σ o 0 (σ a 0)) a 1)) a 2)) a 3)) a 4)) a 5)) a 6)) o 7 ((up2 (up2 (up2 (up2 (up2 (up2 (up2 σ o 0 (σ a 0)) o 1 ((up2 σ o 0 (σ a 0)) a 1)) o 2 ((up2 (up2 σ o 0 (σ a 0)) o 1 ((up2 σ o 0 (σ a 0)) a 1)) a 2)) o 3 ((up2 (up2 (up2 σ o 0 (σ a 0)) o 1 ((up2 σ o 0 (σ a 0)) a 1)) o 2 ((up2 (up2 σ o 0 (σ a 0)) o 1 ((up2 σ o 0 (σ a 0)) a 1)) a 2)) a 3)) o 4 ((up2 (up2 (up2 (up2 σ o 0 (σ a 0)) o 1 ((up2 σ o 0 (σ a 0)) a 1)) o 2 ((up2 (up2 σ o 0 (σ a 0)) o 1 ((up2 σ o 0 (σ a 0)) a 1)) a 2)) o 3 ((up2 (up2 (up2 σ o 0 (σ a 0)) o 1 ((up2 σ o 0 (σ a 0)) a 1)) o 2 ((up2 (up2 σ o 0 (σ a 0)) o 1 ((up2 σ o 0 (σ a 0)) a 1)) a 2)) a 3)) a 4)) o 5 ((up2 (up2 (up2 (up2 (up2 σ o 0 (σ a 0)) o 1 ((up2 σ o 0 (σ a 0)) a 1)) o 2 ((up2 (up2 σ o 0 (σ a 0)) o 1 ((up2 σ o 0 (σ a 0)) a 1)) a 2)) o 3 ((up2 (up2 (up2 σ o 0 (σ a 0)) o 1 ((up2 σ o 0 (σ a 0)) a 1)) o 2 ((up2 (up2 σ o 0 (σ a 0)) o 1 ((up2 σ o 0 (σ a 0)) a 1)) a 2)) a 3)) o 4 ((up2 (up2 (up2 (up2 σ o 0 (σ a 0)) o 1 ((up2 σ o 0 (σ a 0)) a 1)) o 2 ((up2 (up2 σ o 0 (σ a 0)) o 1 ((up2 σ o 0 (σ a 0)) a 1)) a 2)) o 3 ((up2 (up2 (up2 σ o 0 (σ a 0)) o 1 ((up2 σ o 0 (σ a 0)) a 1)) o 2 ((up2 (up2 σ o 0 (σ a 0)) o 1 ((up2 σ o 0 (σ a 0)) a 1)) a 2)) a 3)) a 4)) a 5)) o 6 ((up2 (up2 (up2 (up2 (up2 (up2 σ o 0 (σ a 0)) o 1 ((up2 σ o 0 (σ a 0)) a 1)) o 2 ((up2 (up2 σ o 0 (σ a 0)) o 1 ((up2 σ o 0 (σ a 0)) a 1)) a 2)) o 3 ((up2 (up2 (up2 σ o 0 (σ a 0)) o 1 ((up2 σ o 0 (σ a 0)) a 1)) o 2 ((up2 (up2 σ o 0 (σ a 0)) o 1 ((up2 σ o 0 (σ a 0)) a 1)) a 2)) a 3)) o 4 ((up2 (up2 (up2 (up2 σ o 0 (σ a 0)) o 1 ((up2 σ o 0 (σ a 0)) a 1)) o 2 ((up2 (up2 σ o 0 (σ a 0)) o 1 ((up2 σ o 0 (σ a 0)) a 1)) a 2)) o 3 ((up2 (up2 (up2 σ o 0 (σ a 0)) o 1 ((up2 σ o 0 (σ a 0)) a 1)) o 2 ((up2 (up2 σ o 0 (σ a 0)) o 1 ((up2 σ o 0 (σ a 0)) a 1)) a 2)) a 3)) a 4)) o 5 ((up2 (up2 (up2 (up2 (up2 σ o 0 (σ a 0)) o 1 ((up2 σ o 0 (σ a 0)) a 1)) o 2 ((up2 (up2 σ o 0 (σ a 0)) o 1 ((up2 σ o 0 (σ a 0)) a 1)) a 2)) o 3 ((up2 (up2 (up2 σ o 0 (σ a 0)) o 1 ((up2 σ o 0 (σ a 0)) a 1)) o 2 ((up2 (up2 σ o 0 (σ a 0)) o 1 ((up2 σ o 0 (σ a 0)) a 1)) a 2)) a 3)) o 4 ((up2 (up2 (up2 (up2 σ o 0 (σ a 0)) o 1 ((up2 σ o 0 (σ a 0)) a 1)) o 2 ((up2 (up2 σ o 0 (σ a 0)) o 1 ((up2 σ o 0 (σ a 0)) a 1)) a 2)) o 3 ((up2 (up2 (up2 σ o 0 (σ a 0)) o 1 ((up2 σ o 0 (σ a 0)) a 1)) o 2 ((up2 (up2 σ o 0 (σ a 0)) o 1 ((up2 σ o 0 (σ a 0)) a 1)) a 2)) a 3)) a 4)) a 5)) a 6)) a 7)) [] g s1 ∧ ∃ (s2 : pM), Ca d yX5_copyRow [vR (some (a + 2)), vR (some (o + 2))] g s1 [] g s2 ∧ ∃ (s3 : pM), Ca d yX5_copyRow [vR (some (a + 3)), vR (some (o + 3))] g s2 [] g s3 ∧ ∃ (s4 : pM), Ca d yX5_copyRow [vR (some (a + 4)), vR (some (o + 4))] g s3 [] g s4 ∧ ∃ (s5 : pM), Ca d yX5_copyRow [vR (some (a + 5)), vR (some (o + 5))] g s4 [] g s5 ∧ Q [] g s5) : P 0 [(0, vR (some o)), (1, vR (some a))] [] g σ 0 0 := by
  refine x_aloadn hP 1 0 dX4_copyFrom_0 rfl rfl mm0 ?_
  refine x_aloadn hP 2 1 dX4_copyFrom_1 rfl rfl mm1 ?_
  refine x_geti hP 5 dX4_copyFrom_2 rfl fl_RX4_41 ha.o (by decide) rfl ?_
  refine x_putf hP 8 dX4_copyFrom_5 rfl fl_RX4_41 hg.o (by decide) rfl rfl (fun hz => absurd hz (by decide)) ?_
  refine x_aloadn hP 9 0 dX4_copyFrom_8 rfl rfl mm0 ?_
  refine x_aloadn hP 10 1 dX4_copyFrom_9 rfl rfl mm1 ?_
  refine x_geti hP 13 dX4_copyFrom_10 rfl fl_RX4_44 ha.o (by decide) rfl ?_
  refine x_putf hP 16 dX4_copyFrom_13 rfl fl_RX4_44 hg.o (by decide) rfl rfl (fun hz => absurd hz (by decide)) ?_
  refine x_aloadn hP 17 0 dX4_copyFrom_16 rfl rfl mm0 ?_
  refine x_aloadn hP 18 1 dX4_copyFrom_17 rfl rfl mm1 ?_
  refine x_geti hP 21 dX4_copyFrom_18 rfl fl_RX4_53 ha.o (by decide) rfl ?_
  refine x_putf hP 24 dX4_copyFrom_21 rfl fl_RX4_53 hg.o (by decide) rfl rfl (fun hz => absurd hz (by decide)) ?_
  refine x_aloadn hP 25 0 dX4_copyFrom_24 rfl rfl mm0 ?_
  refine x_aloadn hP 26 1 dX4_copyFrom_25 rfl rfl mm1 ?_
  refine x_geti hP 29 dX4_copyFrom_26 rfl fl_RX4_56 ha.o (by decide) rfl ?_
  refine x_putf hP 32 dX4_copyFrom_29 rfl fl_RX4_56 hg.o (by decide) rfl rfl (fun hz => absurd hz (by decide)) ?_
  refine x_aloadn hP 33 0 dX4_copyFrom_32 rfl rfl mm0 ?_
  refine x_aloadn hP 34 1 dX4_copyFrom_33 rfl rfl mm1 ?_
  refine x_geti hP 37 dX4_copyFrom_34 rfl fl_RX4_9 ha.o (by decide) rfl ?_
  refine x_putf hP 40 dX4_copyFrom_37 rfl fl_RX4_9 hg.o (by decide) rfl rfl (fun hz => absurd hz (by decide)) ?_
  refine x_aloadn hP 41 0 dX4_copyFrom_40 rfl rfl mm0 ?_
  refine x_aloadn hP 42 1 dX4_copyFrom_41 rfl rfl mm1 ?_
  refine x_geti hP 45 dX4_copyFrom_42 rfl fl_RX4_15 ha.o (by decide) rfl ?_
  refine x_putf hP 48 dX4_copyFrom_45 rfl fl_RX4_15 hg.o (by decide) rfl rfl (fun hz => absurd hz (by decide)) ?_
  refine x_aloadn hP 49 0 dX4_copyFrom_48 rfl rfl mm0 ?_
  refine x_aloadn hP 50 1 dX4_copyFrom_49 rfl rfl mm1 ?_
  refine x_geti hP 53 dX4_copyFrom_50 rfl fl_RX4_18 ha.o (by decide) rfl ?_
  refine x_putf hP 56 dX4_copyFrom_53 rfl fl_RX4_18 hg.o (by decide) rfl rfl (fun hz => absurd hz (by decide)) ?_
  refine x_aloadn hP 57 0 dX4_copyFrom_56 rfl rfl mm0 ?_
  refine x_aloadn hP 58 1 dX4_copyFrom_57 rfl rfl mm1 ?_
  refine x_geti hP 61 dX4_copyFrom_58 rfl fl_RX4_59 ha.o (by decide) rfl ?_
  refine x_putf hP 64 dX4_copyFrom_61 rfl fl_RX4_59 hg.o (by decide) rfl rfl (fun hz => absurd hz (by decide)) ?_
  refine x_aloadn hP 65 1 dX4_copyFrom_64 rfl rfl mm1 ?_
  refine x_getr hP 68 (a + 1) dX4_copyFrom_65 rfl fl_RX4_21 ha.o (by decide) rfl ha.r1 ?_
  refine x_aloadn hP 69 0 dX4_copyFrom_68 rfl rfl mm0 ?_
  refine x_getr hP 72 (o + 1) dX4_copyFrom_69 rfl fl_RX4_21 hg.o (by decide) rfl hg.r1 ?_
  obtain ⟨s1, hc, h⟩ := h
  refine x_csn hP 75 [vR (some (a + 1)), vR (some (o + 1))] [] dX4_copyFrom_72 rfl ml_RX4_66 sm_X5_copyRow it_RX5 pp_X5_copyRow bd_X5_copyRow rfl rfl ⟨Nat.le_refl _, Nat.le_refl _⟩ (by simp [pC]) hc ?_
  refine x_aloadn hP 76 1 dX4_copyFrom_75 rfl rfl mm1 ?_
  refine x_getr hP 79 (a + 2) dX4_copyFrom_76 rfl fl_RX4_25 ha.o (by decide) rfl ha.r2 ?_
  refine x_aloadn hP 80 0 dX4_copyFrom_79 rfl rfl mm0 ?_
  refine x_getr hP 83 (o + 2) dX4_copyFrom_80 rfl fl_RX4_25 hg.o (by decide) rfl hg.r2 ?_
  obtain ⟨s2, hc, h⟩ := h
  refine x_csn hP 86 [vR (some (a + 2)), vR (some (o + 2))] [] dX4_copyFrom_83 rfl ml_RX4_66 sm_X5_copyRow it_RX5 pp_X5_copyRow bd_X5_copyRow rfl rfl ⟨Nat.le_refl _, Nat.le_refl _⟩ (by simp [pC]) hc ?_
  refine x_aloadn hP 87 1 dX4_copyFrom_86 rfl rfl mm1 ?_
  refine x_getr hP 90 (a + 3) dX4_copyFrom_87 rfl fl_RX4_28 ha.o (by decide) rfl ha.r3 ?_
  refine x_aloadn hP 91 0 dX4_copyFrom_90 rfl rfl mm0 ?_
  refine x_getr hP 94 (o + 3) dX4_copyFrom_91 rfl fl_RX4_28 hg.o (by decide) rfl hg.r3 ?_
  obtain ⟨s3, hc, h⟩ := h
  refine x_csn hP 97 [vR (some (a + 3)), vR (some (o + 3))] [] dX4_copyFrom_94 rfl ml_RX4_66 sm_X5_copyRow it_RX5 pp_X5_copyRow bd_X5_copyRow rfl rfl ⟨Nat.le_refl _, Nat.le_refl _⟩ (by simp [pC]) hc ?_
  refine x_aloadn hP 98 1 dX4_copyFrom_97 rfl rfl mm1 ?_
  refine x_getr hP 101 (a + 4) dX4_copyFrom_98 rfl fl_RX4_31 ha.o (by decide) rfl ha.r4 ?_
  refine x_aloadn hP 102 0 dX4_copyFrom_101 rfl rfl mm0 ?_
  refine x_getr hP 105 (o + 4) dX4_copyFrom_102 rfl fl_RX4_31 hg.o (by decide) rfl hg.r4 ?_
  obtain ⟨s4, hc, h⟩ := h
  refine x_csn hP 108 [vR (some (a + 4)), vR (some (o + 4))] [] dX4_copyFrom_105 rfl ml_RX4_66 sm_X5_copyRow it_RX5 pp_X5_copyRow bd_X5_copyRow rfl rfl ⟨Nat.le_refl _, Nat.le_refl _⟩ (by simp [pC]) hc ?_
  refine x_aloadn hP 109 1 dX4_copyFrom_108 rfl rfl mm1 ?_
  refine x_getr hP 112 (a + 5) dX4_copyFrom_109 rfl fl_RX4_34 ha.o (by decide) rfl ha.r5 ?_
  refine x_aloadn hP 113 0 dX4_copyFrom_112 rfl rfl mm0 ?_
  refine x_getr hP 116 (o + 5) dX4_copyFrom_113 rfl fl_RX4_34 hg.o (by decide) rfl hg.r5 ?_
  obtain ⟨s5, hc, h⟩ := h
  refine x_csn hP 119 [vR (some (a + 5)), vR (some (o + 5))] [] dX4_copyFrom_116 rfl ml_RX4_66 sm_X5_copyRow it_RX5 pp_X5_copyRow bd_X5_copyRow rfl rfl ⟨Nat.le_refl _, Nat.le_refl _⟩ (by simp [pC]) hc ?_
  exact x_vret hP dX4_copyFrom_119 ⟨Nat.le_refl _, Nat.le_refl _⟩ h
theorem k_X4_swapBound_0 {d : Nat} {Q : pQ} {P : pP} {g : pG} {σ : pM} (hP : Clo (pCall d) yX4_swapBound cX4_swapBound (some .int) 4 0 0 Q P) (o : Nat) (a : Int) (b : Int) (hg : gWl g o) (h : iR a ∧ (¬ a = 0 → iR a ∧ (¬ a = 1 → Q [vI (σ o 6)] g (up2 σ o 6 b)) ∧ (¬ (¬ a = 1) → Q [vI (σ o 5)] g (up2 σ o 5 b))) ∧ (¬ (¬ a = 0) → Q [vI (σ o 4)] g (up2 σ o 4 b))) : P 0 [(0, vR (some o)), (1, vI a), (2, vI b)] [] g σ 0 0 := by
  refine x_iloadn hP 1 1 dX4_swapBound_0 rfl rfl mm1 ?_
  obtain ⟨hs1, h⟩ := h
  refine x_ifc hP 4 17 (¬ a = 0) dX4_swapBound_1 rfl rfl hs1 rfl (fun hbr => ?_) (fun hbr => ?_)
  · replace h := h.1 hbr
    refine x_iloadn hP 18 1 dX4_swapBound_17 rfl rfl mm1 ?_
    refine x_iconst hP 19 dX4_swapBound_18 rfl ?_
    obtain ⟨hs1, h⟩ := h
    refine x_icmp hP 22 35 (¬ a = 1) dX4_swapBound_19 rfl rfl hs1 (by decide) rfl (fun hbr => ?_) (fun hbr => ?_)
    · replace h := h.1 hbr
      refine x_aloadn hP 36 0 dX4_swapBound_35 rfl rfl mm0 ?_
      refine x_geti hP 39 dX4_swapBound_36 rfl fl_RX4_18 hg.o (by decide) rfl ?_
      refine x_istoren hP 40 3 [(0, vR (some o)), (1, vI a), (2, vI b), (3, vI (σ o 6))] dX4_swapBound_39 rfl rfl (by decide) rfl rfl ?_
      refine x_aloadn hP 41 0 dX4_swapBound_40 rfl rfl mm0 ?_
      refine x_iloadn hP 42 2 dX4_swapBound_41 rfl rfl mm2 ?_
      refine x_putf hP 45 dX4_swapBound_42 rfl fl_RX4_18 hg.o (by decide) rfl rfl (fun hz => absurd hz (by decide)) ?_
      refine x_iloadn hP 46 3 dX4_swapBound_45 rfl rfl mm3 ?_
      exact x_iret hP dX4_swapBound_46 ⟨Nat.le_refl _, Nat.le_refl _⟩ h
    · replace h := h.2 hbr
      refine x_aloadn hP 23 0 dX4_swapBound_22 rfl rfl mm0 ?_
      refine x_geti hP 26 dX4_swapBound_23 rfl fl_RX4_15 hg.o (by decide) rfl ?_
      refine x_istoren hP 27 3 [(0, vR (some o)), (1, vI a), (2, vI b), (3, vI (σ o 5))] dX4_swapBound_26 rfl rfl (by decide) rfl rfl ?_
      refine x_aloadn hP 28 0 dX4_swapBound_27 rfl rfl mm0 ?_
      refine x_iloadn hP 29 2 dX4_swapBound_28 rfl rfl mm2 ?_
      refine x_putf hP 32 dX4_swapBound_29 rfl fl_RX4_15 hg.o (by decide) rfl rfl (fun hz => absurd hz (by decide)) ?_
      refine x_goto hP 45 dX4_swapBound_32 rfl ?_
      refine x_iloadn hP 46 3 dX4_swapBound_45 rfl rfl mm3 ?_
      exact x_iret hP dX4_swapBound_46 ⟨Nat.le_refl _, Nat.le_refl _⟩ h
  · replace h := h.2 hbr
    refine x_aloadn hP 5 0 dX4_swapBound_4 rfl rfl mm0 ?_
    refine x_geti hP 8 dX4_swapBound_5 rfl fl_RX4_9 hg.o (by decide) rfl ?_
    refine x_istoren hP 9 3 [(0, vR (some o)), (1, vI a), (2, vI b), (3, vI (σ o 4))] dX4_swapBound_8 rfl rfl (by decide) rfl rfl ?_
    refine x_aloadn hP 10 0 dX4_swapBound_9 rfl rfl mm0 ?_
    refine x_iloadn hP 11 2 dX4_swapBound_10 rfl rfl mm2 ?_
    refine x_putf hP 14 dX4_swapBound_11 rfl fl_RX4_9 hg.o (by decide) rfl rfl (fun hz => absurd hz (by decide)) ?_
    refine x_goto hP 45 dX4_swapBound_14 rfl ?_
    refine x_iloadn hP 46 3 dX4_swapBound_45 rfl rfl mm3 ?_
    exact x_iret hP dX4_swapBound_46 ⟨Nat.le_refl _, Nat.le_refl _⟩ h
theorem k_X4_isCell_0 {d : Nat} {Q : pQ} {P : pP} {g : pG} {σ : pM} (hP : Clo (pCall d) yX4_isCell cX4_isCell (some .boolean) 2 0 0 Q P) (o : Nat) (a : Int) (hg : gWl g o) (h : iR a ∧ (a < 0 → Q [vI 0] g σ) ∧ (¬ (a < 0) → iR a ∧ iR (σ o 2) ∧ ((σ o 2) ≤ a → Q [vI 0] g σ) ∧ (¬ ((σ o 2) ≤ a) → Q [vI 1] g σ))) : P 0 [(0, vR (some o)), (1, vI a)] [] g σ 0 0 := by
  refine x_iloadn hP 1 1 dX4_isCell_0 rfl rfl mm1 ?_
  obtain ⟨hs1, h⟩ := h
  refine x_ifc hP 4 16 (a < 0) dX4_isCell_1 rfl rfl hs1 rfl (fun hbr => ?_) (fun hbr => ?_)
  · replace h := h.1 hbr
    refine x_iconst hP 17 dX4_isCell_16 rfl ?_
    exact x_zret hP dX4_isCell_17 ⟨Nat.le_refl _, Nat.le_refl _⟩ (by decide) h
  · replace h := h.2 hbr
    refine x_iloadn hP 5 1 dX4_isCell_4 rfl rfl mm1 ?_
    refine x_aloadn hP 6 0 dX4_isCell_5 rfl rfl mm0 ?_
    refine x_geti hP 9 dX4_isCell_6 rfl fl_RX4_53 hg.o (by decide) rfl ?_
    obtain ⟨hs1, hs2, h⟩ := h
    refine x_icmp hP 12 16 ((σ o 2) ≤ a) dX4_isCell_9 rfl rfl hs1 hs2 rfl (fun hbr => ?_) (fun hbr => ?_)
    · replace h := h.1 hbr
      refine x_iconst hP 17 dX4_isCell_16 rfl ?_
      exact x_zret hP dX4_isCell_17 ⟨Nat.le_refl _, Nat.le_refl _⟩ (by decide) h
    · replace h := h.2 hbr
      refine x_iconst hP 13 dX4_isCell_12 rfl ?_
      refine x_goto hP 17 dX4_isCell_13 rfl ?_
      exact x_zret hP dX4_isCell_17 ⟨Nat.le_refl _, Nat.le_refl _⟩ (by decide) h
theorem k_X4_isPoured_0 {d : Nat} {Q : pQ} {P : pP} {g : pG} {σ : pM} (hP : Clo (pCall d) yX4_isPoured cX4_isPoured (some .boolean) 2 0 0 Q P) (o : Nat) (a : Int) (hg : gWl g o) (h : iR a ∧ (a < 0 → Q [vI 0] g σ) ∧ (¬ (a < 0) → iR a ∧ iR (σ o 2) ∧ ((σ o 2) ≤ a → Q [vI 0] g σ) ∧ (¬ ((σ o 2) ≤ a) → (0 ≤ a ∧ a < 9) ∧ iR (σ (o + 2) (Int.toNat a)) ∧ ((σ (o + 2) (Int.toNat a)) = ((-1)) → Q [vI 0] g σ) ∧ (¬ ((σ (o + 2) (Int.toNat a)) = ((-1))) → Q [vI 1] g σ)))) : P 0 [(0, vR (some o)), (1, vI a)] [] g σ 0 0 := by
  refine x_iloadn hP 1 1 dX4_isPoured_0 rfl rfl mm1 ?_
  obtain ⟨hs1, h⟩ := h
  refine x_ifc hP 4 26 (a < 0) dX4_isPoured_1 rfl rfl hs1 rfl (fun hbr => ?_) (fun hbr => ?_)
  · replace h := h.1 hbr
    refine x_iconst hP 27 dX4_isPoured_26 rfl ?_
    exact x_zret hP dX4_isPoured_27 ⟨Nat.le_refl _, Nat.le_refl _⟩ (by decide) h
  · replace h := h.2 hbr
    refine x_iloadn hP 5 1 dX4_isPoured_4 rfl rfl mm1 ?_
    refine x_aloadn hP 6 0 dX4_isPoured_5 rfl rfl mm0 ?_
    refine x_geti hP 9 dX4_isPoured_6 rfl fl_RX4_53 hg.o (by decide) rfl ?_
    obtain ⟨hs1, hs2, h⟩ := h
    refine x_icmp hP 12 26 ((σ o 2) ≤ a) dX4_isPoured_9 rfl rfl hs1 hs2 rfl (fun hbr => ?_) (fun hbr => ?_)
    · replace h := h.1 hbr
      refine x_iconst hP 27 dX4_isPoured_26 rfl ?_
      exact x_zret hP dX4_isPoured_27 ⟨Nat.le_refl _, Nat.le_refl _⟩ (by decide) h
    · replace h := h.2 hbr
      refine x_aloadn hP 13 0 dX4_isPoured_12 rfl rfl mm0 ?_
      refine x_getr hP 16 (o + 2) dX4_isPoured_13 rfl fl_RX4_25 hg.o (by decide) rfl hg.r2 ?_
      refine x_iloadn hP 17 1 dX4_isPoured_16 rfl rfl mm1 ?_
      obtain ⟨hs, h⟩ := h
      refine x_iald hP 18 dX4_isPoured_17 rfl hg.a2 (by decide) hs ?_
      refine x_iconst hP 19 dX4_isPoured_18 rfl ?_
      obtain ⟨hs1, h⟩ := h
      refine x_icmp hP 22 26 ((σ (o + 2) (Int.toNat a)) = ((-1))) dX4_isPoured_19 rfl rfl hs1 (by decide) rfl (fun hbr => ?_) (fun hbr => ?_)
      · replace h := h.1 hbr
        refine x_iconst hP 27 dX4_isPoured_26 rfl ?_
        exact x_zret hP dX4_isPoured_27 ⟨Nat.le_refl _, Nat.le_refl _⟩ (by decide) h
      · replace h := h.2 hbr
        refine x_iconst hP 23 dX4_isPoured_22 rfl ?_
        refine x_goto hP 27 dX4_isPoured_23 rfl ?_
        exact x_zret hP dX4_isPoured_27 ⟨Nat.le_refl _, Nat.le_refl _⟩ (by decide) h
theorem k_X4_pouredSet_0 {d : Nat} {Q : pQ} {P : pP} {g : pG} {σ : pM} (hP : Clo (pCall d) yX4_pouredSet cX4_pouredSet (some .int) 3 0 0 Q P) (o : Nat) (hg : gWl g o) (h : P 4 [(0, vR (some o)), (1, vI 0), (2, vI 0)] [] g σ 0 0) : P 0 [(0, vR (some o))] [] g σ 0 0 := by
  refine x_iconst hP 1 dX4_pouredSet_0 rfl ?_
  refine x_istoren hP 2 1 [(0, vR (some o)), (1, vI 0)] dX4_pouredSet_1 rfl rfl (by decide) rfl rfl ?_
  refine x_iconst hP 3 dX4_pouredSet_2 rfl ?_
  refine x_istoren hP 4 2 [(0, vR (some o)), (1, vI 0), (2, vI 0)] dX4_pouredSet_3 rfl rfl (by decide) rfl rfl ?_
  exact h
theorem k_X4_pouredSet_4 {d : Nat} {Q : pQ} {P : pP} {g : pG} {σ : pM} (hP : Clo (pCall d) yX4_pouredSet cX4_pouredSet (some .int) 3 0 0 Q P) (o : Nat) (x1 : Int) (x2 : Int) (hg : gWl g o) (h : iR x2 ∧ iR (σ o 2) ∧ ((σ o 2) ≤ x2 → Q [vI x1] g σ) ∧ (¬ ((σ o 2) ≤ x2) → ∃ (v1 : Int), Ca d yX4_isPoured [vR (some o), vI x2] g σ [vI v1] g σ ∧ iR v1 ∧ (v1 = 0 → P 4 [(0, vR (some o)), (1, vI x1), (2, vI (x2 + 1))] [] g σ 0 0) ∧ (¬ (v1 = 0) → ((0 : Int) ≤ 1 ∧ 0 ≤ x2 ∧ x2 < 32 ∧ (1 : Int) * 2 ^ (x2 : Int).toNat < 4294967296) ∧ (0 ≤ x1 ∧ 0 ≤ ((1 : Int) * 2 ^ (x2 : Int).toNat : Int)) ∧ P 4 [(0, vR (some o)), (1, vI (((Int.toNat x1 ||| Int.toNat ((1 : Int) * 2 ^ (x2 : Int).toNat) : Nat) : Int))), (2, vI (x2 + 1))] [] g σ 0 0))) : P 4 [(0, vR (some o)), (1, vI x1), (2, vI x2)] [] g σ 0 0 := by
  refine x_iloadn hP 5 2 dX4_pouredSet_4 rfl rfl mm2 ?_
  refine x_aloadn hP 6 0 dX4_pouredSet_5 rfl rfl mm0 ?_
  refine x_geti hP 9 dX4_pouredSet_6 rfl fl_RX4_53 hg.o (by decide) rfl ?_
  obtain ⟨hs1, hs2, h⟩ := h
  refine x_icmp hP 12 32 ((σ o 2) ≤ x2) dX4_pouredSet_9 rfl rfl hs1 hs2 rfl (fun hbr => ?_) (fun hbr => ?_)
  · replace h := h.1 hbr
    refine x_iloadn hP 33 1 dX4_pouredSet_32 rfl rfl mm1 ?_
    exact x_iret hP dX4_pouredSet_33 ⟨Nat.le_refl _, Nat.le_refl _⟩ h
  · replace h := h.2 hbr
    refine x_aloadn hP 13 0 dX4_pouredSet_12 rfl rfl mm0 ?_
    refine x_iloadn hP 14 2 dX4_pouredSet_13 rfl rfl mm2 ?_
    obtain ⟨v1, hc, h⟩ := h
    refine x_cv hP 17 [vI x2] [] dX4_pouredSet_14 rfl hg.o (by decide) rfl ml_RX4_70 im_X4_isPoured se_X4_isPoured it_RX4 pp_X4_isPoured bd_X4_isPoured rfl rfl ⟨Nat.le_refl _, Nat.le_refl _⟩ (by simp [pC]) hc ?_
    obtain ⟨hs1, h⟩ := h
    refine x_ifc hP 20 26 (v1 = 0) dX4_pouredSet_17 rfl rfl hs1 rfl (fun hbr => ?_) (fun hbr => ?_)
    · replace h := h.1 hbr
      refine x_iinc hP 29 [(0, vR (some o)), (1, vI x1), (2, vI (x2 + 1))] dX4_pouredSet_26 rfl mm2 (by decide) rfl rfl ?_
      refine x_goto hP 4 dX4_pouredSet_29 rfl ?_
      exact h
    · replace h := h.2 hbr
      refine x_iloadn hP 21 1 dX4_pouredSet_20 rfl rfl mm1 ?_
      refine x_iconst hP 22 dX4_pouredSet_21 rfl ?_
      refine x_iloadn hP 23 2 dX4_pouredSet_22 rfl rfl mm2 ?_
      obtain ⟨hs, h⟩ := h
      refine x_ishl hP 24 dX4_pouredSet_23 rfl hs ?_
      obtain ⟨hs, h⟩ := h
      refine x_ior hP 25 dX4_pouredSet_24 rfl hs ?_
      refine x_istoren hP 26 1 [(0, vR (some o)), (1, vI (((Int.toNat x1 ||| Int.toNat ((1 : Int) * 2 ^ (x2 : Int).toNat) : Nat) : Int))), (2, vI x2)] dX4_pouredSet_25 rfl rfl (by decide) rfl rfl ?_
      refine x_iinc hP 29 [(0, vR (some o)), (1, vI (((Int.toNat x1 ||| Int.toNat ((1 : Int) * 2 ^ (x2 : Int).toNat) : Nat) : Int))), (2, vI (x2 + 1))] dX4_pouredSet_26 rfl mm2 (by decide) rfl rfl ?_
      refine x_goto hP 4 dX4_pouredSet_29 rfl ?_
      exact h
theorem k_X4_pouredCount_0 {d : Nat} {Q : pQ} {P : pP} {g : pG} {σ : pM} (hP : Clo (pCall d) yX4_pouredCount cX4_pouredCount (some .int) 1 0 0 Q P) (o : Nat) (hg : gWl g o) (h : ∃ (v1 : Int), Ca d yX4_pouredSet [vR (some o)] g σ [vI v1] g σ ∧ ∃ (v2 : Int), Ca d yJ6_bitCount_0f7a4 [vI v1] g σ [vI v2] g σ ∧ Q [vI v2] g σ) : P 0 [(0, vR (some o))] [] g σ 0 0 := by
  refine x_aloadn hP 1 0 dX4_pouredCount_0 rfl rfl mm0 ?_
  obtain ⟨v1, hc, h⟩ := h
  refine x_cv hP 4 [] [] dX4_pouredCount_1 rfl hg.o (by decide) rfl ml_RX4_74 im_X4_pouredSet se_X4_pouredSet it_RX4 pp_X4_pouredSet bd_X4_pouredSet rfl rfl ⟨Nat.le_refl _, Nat.le_refl _⟩ (by simp [pC]) hc ?_
  obtain ⟨v2, hc, h⟩ := h
  refine x_cs hP 7 [vI v1] [] dX4_pouredCount_4 rfl ml_RX4_78 sm_J6_bitCount_0f7a4 it_RJ6 pp_J6_bitCount_0f7a4 bd_J6_bitCount_0f7a4 rfl rfl ⟨Nat.le_refl _, Nat.le_refl _⟩ (by simp [pC]) hc ?_
  exact x_iret hP dX4_pouredCount_7 ⟨Nat.le_refl _, Nat.le_refl _⟩ h
theorem k_X4_canSet_0 {d : Nat} {Q : pQ} {P : pP} {g : pG} {σ : pM} (hP : Clo (pCall d) yX4_canSet cX4_canSet (some .int) 3 0 0 Q P) (o : Nat) (hg : gWl g o) (h : P 4 [(0, vR (some o)), (1, vI 0), (2, vI 0)] [] g σ 0 0) : P 0 [(0, vR (some o))] [] g σ 0 0 := by
  refine x_iconst hP 1 dX4_canSet_0 rfl ?_
  refine x_istoren hP 2 1 [(0, vR (some o)), (1, vI 0)] dX4_canSet_1 rfl rfl (by decide) rfl rfl ?_
  refine x_iconst hP 3 dX4_canSet_2 rfl ?_
  refine x_istoren hP 4 2 [(0, vR (some o)), (1, vI 0), (2, vI 0)] dX4_canSet_3 rfl rfl (by decide) rfl rfl ?_
  exact h
theorem k_X4_canSet_4 {d : Nat} {Q : pQ} {P : pP} {g : pG} {σ : pM} (hP : Clo (pCall d) yX4_canSet cX4_canSet (some .int) 3 0 0 Q P) (o : Nat) (x1 : Int) (x2 : Int) (hg : gWl g o) (h : iR x2 ∧ iR (σ o 2) ∧ ((σ o 2) ≤ x2 → Q [vI x1] g σ) ∧ (¬ ((σ o 2) ≤ x2) → ∃ (v1 : Int), Ca d yX4_startOf [vR (some o), vI x2] g σ [vI v1] g σ ∧ iR v1 ∧ (v1 = ((-1)) → P 4 [(0, vR (some o)), (1, vI x1), (2, vI (x2 + 1))] [] g σ 0 0) ∧ (¬ (v1 = ((-1))) → ((0 : Int) ≤ 1 ∧ 0 ≤ x2 ∧ x2 < 32 ∧ (1 : Int) * 2 ^ (x2 : Int).toNat < 4294967296) ∧ (0 ≤ x1 ∧ 0 ≤ ((1 : Int) * 2 ^ (x2 : Int).toNat : Int)) ∧ P 4 [(0, vR (some o)), (1, vI (((Int.toNat x1 ||| Int.toNat ((1 : Int) * 2 ^ (x2 : Int).toNat) : Nat) : Int))), (2, vI (x2 + 1))] [] g σ 0 0))) : P 4 [(0, vR (some o)), (1, vI x1), (2, vI x2)] [] g σ 0 0 := by
  refine x_iloadn hP 5 2 dX4_canSet_4 rfl rfl mm2 ?_
  refine x_aloadn hP 6 0 dX4_canSet_5 rfl rfl mm0 ?_
  refine x_geti hP 9 dX4_canSet_6 rfl fl_RX4_53 hg.o (by decide) rfl ?_
  obtain ⟨hs1, hs2, h⟩ := h
  refine x_icmp hP 12 33 ((σ o 2) ≤ x2) dX4_canSet_9 rfl rfl hs1 hs2 rfl (fun hbr => ?_) (fun hbr => ?_)
  · replace h := h.1 hbr
    refine x_iloadn hP 34 1 dX4_canSet_33 rfl rfl mm1 ?_
    exact x_iret hP dX4_canSet_34 ⟨Nat.le_refl _, Nat.le_refl _⟩ h
  · replace h := h.2 hbr
    refine x_aloadn hP 13 0 dX4_canSet_12 rfl rfl mm0 ?_
    refine x_iloadn hP 14 2 dX4_canSet_13 rfl rfl mm2 ?_
    obtain ⟨v1, hc, h⟩ := h
    refine x_cv hP 17 [vI x2] [] dX4_canSet_14 rfl hg.o (by decide) rfl ml_RX4_84 im_X4_startOf se_X4_startOf it_RX4 pp_X4_startOf bd_X4_startOf rfl rfl ⟨Nat.le_refl _, Nat.le_refl _⟩ (by simp [pC]) hc ?_
    refine x_iconst hP 18 dX4_canSet_17 rfl ?_
    obtain ⟨hs1, h⟩ := h
    refine x_icmp hP 21 27 (v1 = ((-1))) dX4_canSet_18 rfl rfl hs1 (by decide) rfl (fun hbr => ?_) (fun hbr => ?_)
    · replace h := h.1 hbr
      refine x_iinc hP 30 [(0, vR (some o)), (1, vI x1), (2, vI (x2 + 1))] dX4_canSet_27 rfl mm2 (by decide) rfl rfl ?_
      refine x_goto hP 4 dX4_canSet_30 rfl ?_
      exact h
    · replace h := h.2 hbr
      refine x_iloadn hP 22 1 dX4_canSet_21 rfl rfl mm1 ?_
      refine x_iconst hP 23 dX4_canSet_22 rfl ?_
      refine x_iloadn hP 24 2 dX4_canSet_23 rfl rfl mm2 ?_
      obtain ⟨hs, h⟩ := h
      refine x_ishl hP 25 dX4_canSet_24 rfl hs ?_
      obtain ⟨hs, h⟩ := h
      refine x_ior hP 26 dX4_canSet_25 rfl hs ?_
      refine x_istoren hP 27 1 [(0, vR (some o)), (1, vI (((Int.toNat x1 ||| Int.toNat ((1 : Int) * 2 ^ (x2 : Int).toNat) : Nat) : Int))), (2, vI x2)] dX4_canSet_26 rfl rfl (by decide) rfl rfl ?_
      refine x_iinc hP 30 [(0, vR (some o)), (1, vI (((Int.toNat x1 ||| Int.toNat ((1 : Int) * 2 ^ (x2 : Int).toNat) : Nat) : Int))), (2, vI (x2 + 1))] dX4_canSet_27 rfl mm2 (by decide) rfl rfl ?_
      refine x_goto hP 4 dX4_canSet_30 rfl ?_
      exact h
theorem k_X4_startOf_0 {d : Nat} {Q : pQ} {P : pP} {g : pG} {σ : pM} (hP : Clo (pCall d) yX4_startOf cX4_startOf (some .int) 3 0 0 Q P) (o : Nat) (a : Int) (hg : gWl g o) (h : ∃ (v1 : Int), Ca d yX4_isCell [vR (some o), vI a] g σ [vI v1] g σ ∧ iR v1 ∧ (v1 = 0 → Q [vI ((-1))] g σ) ∧ (¬ (v1 = 0) → ∃ (v2 : Int), Ca d yX4_isPoured [vR (some o), vI a] g σ [vI v2] g σ ∧ iR v2 ∧ (v2 = 0 → iR a ∧ iR (σ o 0) ∧ (a < (σ o 0) → ∃ (v3 : Int), Ca d yX4_usedLoads [vR (some o)] g σ [vI v3] g σ ∧ (0 ≤ a ∧ a < 9) ∧ ∃ (v4 : Int), Ca d yX4_broughtAt [vR (some o), vI (v3 + (σ (o + 1) (Int.toNat a)))] g σ [vI v4] g σ ∧ iR v4 ∧ (¬ v4 = ((-1)) → ∃ (v5 : Int), Ca d yJ9_max_7cf53 [vI (σ o 3), vI v4] g σ [vI v5] g σ ∧ Q [vI v5] g σ) ∧ (¬ (¬ v4 = ((-1))) → Q [vI ((-1))] g σ)) ∧ (¬ (a < (σ o 0)) → ∃ (v6 : Int), Ca d yX4_isPoured [vR (some o), vI (a - (σ o 0))] g σ [vI v6] g σ ∧ iR v6 ∧ (¬ v6 = 0 → ∃ (v7 : Int), Ca d yX4_usedLoads [vR (some o)] g σ [vI v7] g σ ∧ (0 ≤ a ∧ a < 9) ∧ ∃ (v8 : Int), Ca d yX4_broughtAt [vR (some o), vI (v7 + (σ (o + 1) (Int.toNat a)))] g σ [vI v8] g σ ∧ iR v8 ∧ (¬ v8 = ((-1)) → ∃ (v9 : Int), Ca d yJ9_max_7cf53 [vI (σ o 3), vI v8] g σ [vI v9] g σ ∧ Q [vI v9] g σ) ∧ (¬ (¬ v8 = ((-1))) → Q [vI ((-1))] g σ)) ∧ (¬ (¬ v6 = 0) → Q [vI ((-1))] g σ))) ∧ (¬ (v2 = 0) → Q [vI ((-1))] g σ))) : P 0 [(0, vR (some o)), (1, vI a)] [] g σ 0 0 := by
  refine x_aloadn hP 1 0 dX4_startOf_0 rfl rfl mm0 ?_
  refine x_iloadn hP 2 1 dX4_startOf_1 rfl rfl mm1 ?_
  obtain ⟨v1, hc, h⟩ := h
  refine x_cv hP 5 [vI a] [] dX4_startOf_2 rfl hg.o (by decide) rfl ml_RX4_87 im_X4_isCell se_X4_isCell it_RX4 pp_X4_isCell bd_X4_isCell rfl rfl ⟨Nat.le_refl _, Nat.le_refl _⟩ (by simp [pC]) hc ?_
  obtain ⟨hs1, h⟩ := h
  refine x_ifc hP 8 16 (v1 = 0) dX4_startOf_5 rfl rfl hs1 rfl (fun hbr => ?_) (fun hbr => ?_)
  · replace h := h.1 hbr
    refine x_iconst hP 17 dX4_startOf_16 rfl ?_
    exact x_iret hP dX4_startOf_17 ⟨Nat.le_refl _, Nat.le_refl _⟩ h
  · replace h := h.2 hbr
    refine x_aloadn hP 9 0 dX4_startOf_8 rfl rfl mm0 ?_
    refine x_iloadn hP 10 1 dX4_startOf_9 rfl rfl mm1 ?_
    obtain ⟨v2, hc, h⟩ := h
    refine x_cv hP 13 [vI a] [] dX4_startOf_10 rfl hg.o (by decide) rfl ml_RX4_70 im_X4_isPoured se_X4_isPoured it_RX4 pp_X4_isPoured bd_X4_isPoured rfl rfl ⟨Nat.le_refl _, Nat.le_refl _⟩ (by simp [pC]) hc ?_
    obtain ⟨hs1, h⟩ := h
    refine x_ifc hP 16 18 (v2 = 0) dX4_startOf_13 rfl rfl hs1 rfl (fun hbr => ?_) (fun hbr => ?_)
    · replace h := h.1 hbr
      refine x_iloadn hP 19 1 dX4_startOf_18 rfl rfl mm1 ?_
      refine x_aloadn hP 20 0 dX4_startOf_19 rfl rfl mm0 ?_
      refine x_geti hP 23 dX4_startOf_20 rfl fl_RX4_41 hg.o (by decide) rfl ?_
      obtain ⟨hs1, hs2, h⟩ := h
      refine x_icmp hP 26 41 (a < (σ o 0)) dX4_startOf_23 rfl rfl hs1 hs2 rfl (fun hbr => ?_) (fun hbr => ?_)
      · replace h := h.1 hbr
        refine x_aloadn hP 42 0 dX4_startOf_41 rfl rfl mm0 ?_
        refine x_aloadn hP 43 0 dX4_startOf_42 rfl rfl mm0 ?_
        obtain ⟨v3, hc, h⟩ := h
        refine x_cv hP 46 [] [vR (some o)] dX4_startOf_43 rfl hg.o (by decide) rfl ml_RX4_90 im_X4_usedLoads se_X4_usedLoads it_RX4 pp_X4_usedLoads bd_X4_usedLoads rfl rfl ⟨Nat.le_refl _, Nat.le_refl _⟩ (by simp [pC]) hc ?_
        refine x_aloadn hP 47 0 dX4_startOf_46 rfl rfl mm0 ?_
        refine x_getr hP 50 (o + 1) dX4_startOf_47 rfl fl_RX4_21 hg.o (by decide) rfl hg.r1 ?_
        refine x_iloadn hP 51 1 dX4_startOf_50 rfl rfl mm1 ?_
        obtain ⟨hs, h⟩ := h
        refine x_iald hP 52 dX4_startOf_51 rfl hg.a1 (by decide) hs ?_
        refine x_iadd hP 53 dX4_startOf_52 rfl ?_
        obtain ⟨v4, hc, h⟩ := h
        refine x_cv hP 56 [vI (v3 + (σ (o + 1) (Int.toNat a)))] [] dX4_startOf_53 rfl hg.o (by decide) rfl ml_RX4_93 im_X4_broughtAt se_X4_broughtAt it_RX4 pp_X4_broughtAt bd_X4_broughtAt rfl rfl ⟨Nat.le_refl _, Nat.le_refl _⟩ (by simp [pC]) hc ?_
        refine x_istoren hP 57 2 [(0, vR (some o)), (1, vI a), (2, vI v4)] dX4_startOf_56 rfl rfl (by decide) rfl rfl ?_
        refine x_iloadn hP 58 2 dX4_startOf_57 rfl rfl mm2 ?_
        refine x_iconst hP 59 dX4_startOf_58 rfl ?_
        obtain ⟨hs1, h⟩ := h
        refine x_icmp hP 62 66 (¬ v4 = ((-1))) dX4_startOf_59 rfl rfl hs1 (by decide) rfl (fun hbr => ?_) (fun hbr => ?_)
        · replace h := h.1 hbr
          refine x_aloadn hP 67 0 dX4_startOf_66 rfl rfl mm0 ?_
          refine x_geti hP 70 dX4_startOf_67 rfl fl_RX4_56 hg.o (by decide) rfl ?_
          refine x_iloadn hP 71 2 dX4_startOf_70 rfl rfl mm2 ?_
          obtain ⟨v5, hc, h⟩ := h
          refine x_cs hP 74 [vI (σ o 3), vI v4] [] dX4_startOf_71 rfl ml_RX4_96 sm_J9_max_7cf53 it_RJ9 pp_J9_max_7cf53 bd_J9_max_7cf53 rfl rfl ⟨Nat.le_refl _, Nat.le_refl _⟩ (by simp [pC]) hc ?_
          exact x_iret hP dX4_startOf_74 ⟨Nat.le_refl _, Nat.le_refl _⟩ h
        · replace h := h.2 hbr
          refine x_iconst hP 63 dX4_startOf_62 rfl ?_
          refine x_goto hP 74 dX4_startOf_63 rfl ?_
          exact x_iret hP dX4_startOf_74 ⟨Nat.le_refl _, Nat.le_refl _⟩ h
      · replace h := h.2 hbr
        refine x_aloadn hP 27 0 dX4_startOf_26 rfl rfl mm0 ?_
        refine x_iloadn hP 28 1 dX4_startOf_27 rfl rfl mm1 ?_
        refine x_aloadn hP 29 0 dX4_startOf_28 rfl rfl mm0 ?_
        refine x_geti hP 32 dX4_startOf_29 rfl fl_RX4_41 hg.o (by decide) rfl ?_
        refine x_isub hP 33 dX4_startOf_32 rfl ?_
        obtain ⟨v6, hc, h⟩ := h
        refine x_cv hP 36 [vI (a - (σ o 0))] [] dX4_startOf_33 rfl hg.o (by decide) rfl ml_RX4_70 im_X4_isPoured se_X4_isPoured it_RX4 pp_X4_isPoured bd_X4_isPoured rfl rfl ⟨Nat.le_refl _, Nat.le_refl _⟩ (by simp [pC]) hc ?_
        obtain ⟨hs1, h⟩ := h
        refine x_ifc hP 39 41 (¬ v6 = 0) dX4_startOf_36 rfl rfl hs1 rfl (fun hbr => ?_) (fun hbr => ?_)
        · replace h := h.1 hbr
          refine x_aloadn hP 42 0 dX4_startOf_41 rfl rfl mm0 ?_
          refine x_aloadn hP 43 0 dX4_startOf_42 rfl rfl mm0 ?_
          obtain ⟨v7, hc, h⟩ := h
          refine x_cv hP 46 [] [vR (some o)] dX4_startOf_43 rfl hg.o (by decide) rfl ml_RX4_90 im_X4_usedLoads se_X4_usedLoads it_RX4 pp_X4_usedLoads bd_X4_usedLoads rfl rfl ⟨Nat.le_refl _, Nat.le_refl _⟩ (by simp [pC]) hc ?_
          refine x_aloadn hP 47 0 dX4_startOf_46 rfl rfl mm0 ?_
          refine x_getr hP 50 (o + 1) dX4_startOf_47 rfl fl_RX4_21 hg.o (by decide) rfl hg.r1 ?_
          refine x_iloadn hP 51 1 dX4_startOf_50 rfl rfl mm1 ?_
          obtain ⟨hs, h⟩ := h
          refine x_iald hP 52 dX4_startOf_51 rfl hg.a1 (by decide) hs ?_
          refine x_iadd hP 53 dX4_startOf_52 rfl ?_
          obtain ⟨v8, hc, h⟩ := h
          refine x_cv hP 56 [vI (v7 + (σ (o + 1) (Int.toNat a)))] [] dX4_startOf_53 rfl hg.o (by decide) rfl ml_RX4_93 im_X4_broughtAt se_X4_broughtAt it_RX4 pp_X4_broughtAt bd_X4_broughtAt rfl rfl ⟨Nat.le_refl _, Nat.le_refl _⟩ (by simp [pC]) hc ?_
          refine x_istoren hP 57 2 [(0, vR (some o)), (1, vI a), (2, vI v8)] dX4_startOf_56 rfl rfl (by decide) rfl rfl ?_
          refine x_iloadn hP 58 2 dX4_startOf_57 rfl rfl mm2 ?_
          refine x_iconst hP 59 dX4_startOf_58 rfl ?_
          obtain ⟨hs1, h⟩ := h
          refine x_icmp hP 62 66 (¬ v8 = ((-1))) dX4_startOf_59 rfl rfl hs1 (by decide) rfl (fun hbr => ?_) (fun hbr => ?_)
          · replace h := h.1 hbr
            refine x_aloadn hP 67 0 dX4_startOf_66 rfl rfl mm0 ?_
            refine x_geti hP 70 dX4_startOf_67 rfl fl_RX4_56 hg.o (by decide) rfl ?_
            refine x_iloadn hP 71 2 dX4_startOf_70 rfl rfl mm2 ?_
            obtain ⟨v9, hc, h⟩ := h
            refine x_cs hP 74 [vI (σ o 3), vI v8] [] dX4_startOf_71 rfl ml_RX4_96 sm_J9_max_7cf53 it_RJ9 pp_J9_max_7cf53 bd_J9_max_7cf53 rfl rfl ⟨Nat.le_refl _, Nat.le_refl _⟩ (by simp [pC]) hc ?_
            exact x_iret hP dX4_startOf_74 ⟨Nat.le_refl _, Nat.le_refl _⟩ h
          · replace h := h.2 hbr
            refine x_iconst hP 63 dX4_startOf_62 rfl ?_
            refine x_goto hP 74 dX4_startOf_63 rfl ?_
            exact x_iret hP dX4_startOf_74 ⟨Nat.le_refl _, Nat.le_refl _⟩ h
        · replace h := h.2 hbr
          refine x_iconst hP 40 dX4_startOf_39 rfl ?_
          exact x_iret hP dX4_startOf_40 ⟨Nat.le_refl _, Nat.le_refl _⟩ h
    · replace h := h.2 hbr
      refine x_iconst hP 17 dX4_startOf_16 rfl ?_
      exact x_iret hP dX4_startOf_17 ⟨Nat.le_refl _, Nat.le_refl _⟩ h
theorem k_X4_fill_0 {d : Nat} {Q : pQ} {P : pP} {g : pG} {σ : pM} (hP : Clo (pCall d) yX4_fill cX4_fill none 3 0 0 Q P) (o : Nat) (a : Int) (hg : gWl g o) (h : ∃ (v1 : Int), Ca d yX4_startOf [vR (some o), vI a] g σ [vI v1] g σ ∧ iR v1 ∧ (¬ v1 = ((-1)) → (0 ≤ a ∧ a < 9) ∧ (0 ≤ a ∧ a < 9) ∧ (0 ≤ a ∧ a < 9) ∧ (0 ≤ a ∧ a < 9) ∧ Q [] g (up2 (up2 (up2 σ (o + 2) (Int.toNat a) v1) (o + 3) (Int.toNat a) (v1 + ((up2 σ (o + 2) (Int.toNat a) v1) (o + 1) (Int.toNat a)))) o 3 ((up2 (up2 σ (o + 2) (Int.toNat a) v1) (o + 3) (Int.toNat a) (v1 + ((up2 σ (o + 2) (Int.toNat a) v1) (o + 1) (Int.toNat a)))) (o + 3) (Int.toNat a)))) ∧ (¬ (¬ v1 = ((-1))) → Q [] g σ)) : P 0 [(0, vR (some o)), (1, vI a)] [] g σ 0 0 := by
  refine x_aloadn hP 1 0 dX4_fill_0 rfl rfl mm0 ?_
  refine x_iloadn hP 2 1 dX4_fill_1 rfl rfl mm1 ?_
  obtain ⟨v1, hc, h⟩ := h
  refine x_cv hP 5 [vI a] [] dX4_fill_2 rfl hg.o (by decide) rfl ml_RX4_84 im_X4_startOf se_X4_startOf it_RX4 pp_X4_startOf bd_X4_startOf rfl rfl ⟨Nat.le_refl _, Nat.le_refl _⟩ (by simp [pC]) hc ?_
  refine x_istoren hP 6 2 [(0, vR (some o)), (1, vI a), (2, vI v1)] dX4_fill_5 rfl rfl (by decide) rfl rfl ?_
  refine x_iloadn hP 7 2 dX4_fill_6 rfl rfl mm2 ?_
  refine x_iconst hP 8 dX4_fill_7 rfl ?_
  obtain ⟨hs1, h⟩ := h
  refine x_icmp hP 11 12 (¬ v1 = ((-1))) dX4_fill_8 rfl rfl hs1 (by decide) rfl (fun hbr => ?_) (fun hbr => ?_)
  · replace h := h.1 hbr
    refine x_aloadn hP 13 0 dX4_fill_12 rfl rfl mm0 ?_
    refine x_getr hP 16 (o + 2) dX4_fill_13 rfl fl_RX4_25 hg.o (by decide) rfl hg.r2 ?_
    refine x_iloadn hP 17 1 dX4_fill_16 rfl rfl mm1 ?_
    refine x_iloadn hP 18 2 dX4_fill_17 rfl rfl mm2 ?_
    obtain ⟨hs1, h⟩ := h
    refine x_iast hP 19 dX4_fill_18 rfl hg.a2 (by decide) hs1 ?_
    refine x_aloadn hP 20 0 dX4_fill_19 rfl rfl mm0 ?_
    refine x_getr hP 23 (o + 3) dX4_fill_20 rfl fl_RX4_28 hg.o (by decide) rfl hg.r3 ?_
    refine x_iloadn hP 24 1 dX4_fill_23 rfl rfl mm1 ?_
    refine x_iloadn hP 25 2 dX4_fill_24 rfl rfl mm2 ?_
    refine x_aloadn hP 26 0 dX4_fill_25 rfl rfl mm0 ?_
    refine x_getr hP 29 (o + 1) dX4_fill_26 rfl fl_RX4_21 hg.o (by decide) rfl hg.r1 ?_
    refine x_iloadn hP 30 1 dX4_fill_29 rfl rfl mm1 ?_
    obtain ⟨hs, h⟩ := h
    refine x_iald hP 31 dX4_fill_30 rfl hg.a1 (by decide) hs ?_
    refine x_iadd hP 32 dX4_fill_31 rfl ?_
    obtain ⟨hs1, h⟩ := h
    refine x_iast hP 33 dX4_fill_32 rfl hg.a3 (by decide) hs1 ?_
    refine x_aloadn hP 34 0 dX4_fill_33 rfl rfl mm0 ?_
    refine x_aloadn hP 35 0 dX4_fill_34 rfl rfl mm0 ?_
    refine x_getr hP 38 (o + 3) dX4_fill_35 rfl fl_RX4_28 hg.o (by decide) rfl hg.r3 ?_
    refine x_iloadn hP 39 1 dX4_fill_38 rfl rfl mm1 ?_
    obtain ⟨hs, h⟩ := h
    refine x_iald hP 40 dX4_fill_39 rfl hg.a3 (by decide) hs ?_
    refine x_putf hP 43 dX4_fill_40 rfl fl_RX4_56 hg.o (by decide) rfl rfl (fun hz => absurd hz (by decide)) ?_
    exact x_vret hP dX4_fill_43 ⟨Nat.le_refl _, Nat.le_refl _⟩ h
  · replace h := h.2 hbr
    exact x_vret hP dX4_fill_11 ⟨Nat.le_refl _, Nat.le_refl _⟩ h
theorem k_X4_isTruck_0 {d : Nat} {Q : pQ} {P : pP} {g : pG} {σ : pM} (hP : Clo (pCall d) yX4_isTruck cX4_isTruck (some .boolean) 2 0 0 Q P) (o : Nat) (a : Int) (hg : gWl g o) (h : iR a ∧ (a < 0 → Q [vI 0] g σ) ∧ (¬ (a < 0) → iR a ∧ iR (σ o 7) ∧ ((σ o 7) ≤ a → Q [vI 0] g σ) ∧ (¬ ((σ o 7) ≤ a) → Q [vI 1] g σ))) : P 0 [(0, vR (some o)), (1, vI a)] [] g σ 0 0 := by
  refine x_iloadn hP 1 1 dX4_isTruck_0 rfl rfl mm1 ?_
  obtain ⟨hs1, h⟩ := h
  refine x_ifc hP 4 16 (a < 0) dX4_isTruck_1 rfl rfl hs1 rfl (fun hbr => ?_) (fun hbr => ?_)
  · replace h := h.1 hbr
    refine x_iconst hP 17 dX4_isTruck_16 rfl ?_
    exact x_zret hP dX4_isTruck_17 ⟨Nat.le_refl _, Nat.le_refl _⟩ (by decide) h
  · replace h := h.2 hbr
    refine x_iloadn hP 5 1 dX4_isTruck_4 rfl rfl mm1 ?_
    refine x_aloadn hP 6 0 dX4_isTruck_5 rfl rfl mm0 ?_
    refine x_geti hP 9 dX4_isTruck_6 rfl fl_RX4_59 hg.o (by decide) rfl ?_
    obtain ⟨hs1, hs2, h⟩ := h
    refine x_icmp hP 12 16 ((σ o 7) ≤ a) dX4_isTruck_9 rfl rfl hs1 hs2 rfl (fun hbr => ?_) (fun hbr => ?_)
    · replace h := h.1 hbr
      refine x_iconst hP 17 dX4_isTruck_16 rfl ?_
      exact x_zret hP dX4_isTruck_17 ⟨Nat.le_refl _, Nat.le_refl _⟩ (by decide) h
    · replace h := h.2 hbr
      refine x_iconst hP 13 dX4_isTruck_12 rfl ?_
      refine x_goto hP 17 dX4_isTruck_13 rfl ?_
      exact x_zret hP dX4_isTruck_17 ⟨Nat.le_refl _, Nat.le_refl _⟩ (by decide) h
theorem k_X4_hasTruckRoom_0 {d : Nat} {Q : pQ} {P : pP} {g : pG} {σ : pM} (hP : Clo (pCall d) yX4_hasTruckRoom cX4_hasTruckRoom (some .boolean) 1 0 0 Q P) (o : Nat) (hg : gWl g o) (h : iR (σ o 7) ∧ (9 ≤ (σ o 7) → Q [vI 0] g σ) ∧ (¬ (9 ≤ (σ o 7)) → Q [vI 1] g σ)) : P 0 [(0, vR (some o))] [] g σ 0 0 := by
  refine x_aloadn hP 1 0 dX4_hasTruckRoom_0 rfl rfl mm0 ?_
  refine x_geti hP 4 dX4_hasTruckRoom_1 rfl fl_RX4_59 hg.o (by decide) rfl ?_
  refine x_bipush hP 6 dX4_hasTruckRoom_4 rfl (by decide) ?_
  obtain ⟨hs1, h⟩ := h
  refine x_icmp hP 9 13 (9 ≤ (σ o 7)) dX4_hasTruckRoom_6 rfl rfl hs1 (by decide) rfl (fun hbr => ?_) (fun hbr => ?_)
  · replace h := h.1 hbr
    refine x_iconst hP 14 dX4_hasTruckRoom_13 rfl ?_
    exact x_zret hP dX4_hasTruckRoom_14 ⟨Nat.le_refl _, Nat.le_refl _⟩ (by decide) h
  · replace h := h.2 hbr
    refine x_iconst hP 10 dX4_hasTruckRoom_9 rfl ?_
    refine x_goto hP 14 dX4_hasTruckRoom_10 rfl ?_
    exact x_zret hP dX4_hasTruckRoom_14 ⟨Nat.le_refl _, Nat.le_refl _⟩ (by decide) h
theorem k_X4_addTruck_0 {d : Nat} {Q : pQ} {P : pP} {g : pG} {σ : pM} (hP : Clo (pCall d) yX4_addTruck cX4_addTruck none 3 0 0 Q P) (o : Nat) (a : Int) (b : Int) (hg : gWl g o) (h : ∃ (v1 : Int), Ca d yX4_hasTruckRoom [vR (some o)] g σ [vI v1] g σ ∧ iR v1 ∧ (¬ v1 = 0 → (0 ≤ (σ o 7) ∧ (σ o 7) < 9) ∧ (0 ≤ ((up2 σ (o + 4) (Int.toNat (σ o 7)) a) o 7) ∧ ((up2 σ (o + 4) (Int.toNat (σ o 7)) a) o 7) < 9) ∧ Q [] g (up2 (up2 (up2 σ (o + 4) (Int.toNat (σ o 7)) a) (o + 5) (Int.toNat ((up2 σ (o + 4) (Int.toNat (σ o 7)) a) o 7)) b) o 7 (((up2 (up2 σ (o + 4) (Int.toNat (σ o 7)) a) (o + 5) (Int.toNat ((up2 σ (o + 4) (Int.toNat (σ o 7)) a) o 7)) b) o 7) + 1))) ∧ (¬ (¬ v1 = 0) → Q [] g σ)) : P 0 [(0, vR (some o)), (1, vI a), (2, vI b)] [] g σ 0 0 := by
  refine x_aloadn hP 1 0 dX4_addTruck_0 rfl rfl mm0 ?_
  obtain ⟨v1, hc, h⟩ := h
  refine x_cv hP 4 [] [] dX4_addTruck_1 rfl hg.o (by decide) rfl ml_RX4_99 im_X4_hasTruckRoom se_X4_hasTruckRoom it_RX4 pp_X4_hasTruckRoom bd_X4_hasTruckRoom rfl rfl ⟨Nat.le_refl _, Nat.le_refl _⟩ (by simp [pC]) hc ?_
  obtain ⟨hs1, h⟩ := h
  refine x_ifc hP 7 8 (¬ v1 = 0) dX4_addTruck_4 rfl rfl hs1 rfl (fun hbr => ?_) (fun hbr => ?_)
  · replace h := h.1 hbr
    refine x_aloadn hP 9 0 dX4_addTruck_8 rfl rfl mm0 ?_
    refine x_getr hP 12 (o + 4) dX4_addTruck_9 rfl fl_RX4_31 hg.o (by decide) rfl hg.r4 ?_
    refine x_aloadn hP 13 0 dX4_addTruck_12 rfl rfl mm0 ?_
    refine x_geti hP 16 dX4_addTruck_13 rfl fl_RX4_59 hg.o (by decide) rfl ?_
    refine x_iloadn hP 17 1 dX4_addTruck_16 rfl rfl mm1 ?_
    obtain ⟨hs1, h⟩ := h
    refine x_iast hP 18 dX4_addTruck_17 rfl hg.a4 (by decide) hs1 ?_
    refine x_aloadn hP 19 0 dX4_addTruck_18 rfl rfl mm0 ?_
    refine x_getr hP 22 (o + 5) dX4_addTruck_19 rfl fl_RX4_34 hg.o (by decide) rfl hg.r5 ?_
    refine x_aloadn hP 23 0 dX4_addTruck_22 rfl rfl mm0 ?_
    refine x_geti hP 26 dX4_addTruck_23 rfl fl_RX4_59 hg.o (by decide) rfl ?_
    refine x_iloadn hP 27 2 dX4_addTruck_26 rfl rfl mm2 ?_
    obtain ⟨hs1, h⟩ := h
    refine x_iast hP 28 dX4_addTruck_27 rfl hg.a5 (by decide) hs1 ?_
    refine x_aloadn hP 29 0 dX4_addTruck_28 rfl rfl mm0 ?_
    refine x_dup hP 30 dX4_addTruck_29 rfl rfl ?_
    refine x_geti hP 33 dX4_addTruck_30 rfl fl_RX4_59 hg.o (by decide) rfl ?_
    refine x_iconst hP 34 dX4_addTruck_33 rfl ?_
    refine x_iadd hP 35 dX4_addTruck_34 rfl ?_
    refine x_putf hP 38 dX4_addTruck_35 rfl fl_RX4_59 hg.o (by decide) rfl rfl (fun hz => absurd hz (by decide)) ?_
    exact x_vret hP dX4_addTruck_38 ⟨Nat.le_refl _, Nat.le_refl _⟩ h
  · replace h := h.2 hbr
    exact x_vret hP dX4_addTruck_7 ⟨Nat.le_refl _, Nat.le_refl _⟩ h
theorem k_X4_delay_0 {d : Nat} {Q : pQ} {P : pP} {g : pG} {σ : pM} (hP : Clo (pCall d) yX4_delay cX4_delay none 3 0 0 Q P) (o : Nat) (a : Int) (b : Int) (hg : gWl g o) (h : ∃ (v1 : Int), Ca d yX4_isTruck [vR (some o), vI a] g σ [vI v1] g σ ∧ iR v1 ∧ (v1 = 0 → Q [] g σ) ∧ (¬ (v1 = 0) → (0 ≤ a ∧ a < 9) ∧ (0 ≤ a ∧ a < 9) ∧ Q [] g (up2 σ (o + 4) (Int.toNat a) ((σ (o + 4) (Int.toNat a)) + b)))) : P 0 [(0, vR (some o)), (1, vI a), (2, vI b)] [] g σ 0 0 := by
  refine x_aloadn hP 1 0 dX4_delay_0 rfl rfl mm0 ?_
  refine x_iloadn hP 2 1 dX4_delay_1 rfl rfl mm1 ?_
  obtain ⟨v1, hc, h⟩ := h
  refine x_cv hP 5 [vI a] [] dX4_delay_2 rfl hg.o (by decide) rfl ml_RX4_103 im_X4_isTruck se_X4_isTruck it_RX4 pp_X4_isTruck bd_X4_isTruck rfl rfl ⟨Nat.le_refl _, Nat.le_refl _⟩ (by simp [pC]) hc ?_
  obtain ⟨hs1, h⟩ := h
  refine x_ifc hP 8 18 (v1 = 0) dX4_delay_5 rfl rfl hs1 rfl (fun hbr => ?_) (fun hbr => ?_)
  · replace h := h.1 hbr
    exact x_vret hP dX4_delay_18 ⟨Nat.le_refl _, Nat.le_refl _⟩ h
  · replace h := h.2 hbr
    refine x_aloadn hP 9 0 dX4_delay_8 rfl rfl mm0 ?_
    refine x_getr hP 12 (o + 4) dX4_delay_9 rfl fl_RX4_31 hg.o (by decide) rfl hg.r4 ?_
    refine x_iloadn hP 13 1 dX4_delay_12 rfl rfl mm1 ?_
    refine x_dup2 hP 14 dX4_delay_13 rfl rfl rfl ?_
    obtain ⟨hs, h⟩ := h
    refine x_iald hP 15 dX4_delay_14 rfl hg.a4 (by decide) hs ?_
    refine x_iloadn hP 16 2 dX4_delay_15 rfl rfl mm2 ?_
    refine x_iadd hP 17 dX4_delay_16 rfl ?_
    obtain ⟨hs1, h⟩ := h
    refine x_iast hP 18 dX4_delay_17 rfl hg.a4 (by decide) hs1 ?_
    exact x_vret hP dX4_delay_18 ⟨Nat.le_refl _, Nat.le_refl _⟩ h
theorem k_X4_dropTruck_0 {d : Nat} {Q : pQ} {P : pP} {g : pG} {σ : pM} (hP : Clo (pCall d) yX4_dropTruck cX4_dropTruck none 3 0 0 Q P) (o : Nat) (a : Int) (hg : gWl g o) (h : ∃ (v1 : Int), Ca d yX4_isTruck [vR (some o), vI a] g σ [vI v1] g σ ∧ iR v1 ∧ (¬ v1 = 0 → P 11 [(0, vR (some o)), (2, vI a)] [] g σ 0 0) ∧ (¬ (¬ v1 = 0) → Q [] g σ)) : P 0 [(0, vR (some o)), (1, vI a)] [] g σ 0 0 := by
  refine x_aloadn hP 1 0 dX4_dropTruck_0 rfl rfl mm0 ?_
  refine x_iloadn hP 2 1 dX4_dropTruck_1 rfl rfl mm1 ?_
  obtain ⟨v1, hc, h⟩ := h
  refine x_cv hP 5 [vI a] [] dX4_dropTruck_2 rfl hg.o (by decide) rfl ml_RX4_103 im_X4_isTruck se_X4_isTruck it_RX4 pp_X4_isTruck bd_X4_isTruck rfl rfl ⟨Nat.le_refl _, Nat.le_refl _⟩ (by simp [pC]) hc ?_
  obtain ⟨hs1, h⟩ := h
  refine x_ifc hP 8 9 (¬ v1 = 0) dX4_dropTruck_5 rfl rfl hs1 rfl (fun hbr => ?_) (fun hbr => ?_)
  · replace h := h.1 hbr
    refine x_iloadn hP 10 1 dX4_dropTruck_9 rfl rfl mm1 ?_
    refine x_istoren hP 11 2 [(0, vR (some o)), (1, vI a), (2, vI a)] dX4_dropTruck_10 rfl rfl (by decide) rfl rfl ?_
    exact x_sub hP [0, 2] rfl h
  · replace h := h.2 hbr
    exact x_vret hP dX4_dropTruck_8 ⟨Nat.le_refl _, Nat.le_refl _⟩ h
theorem k_X4_dropTruck_11 {d : Nat} {Q : pQ} {P : pP} {g : pG} {σ : pM} (hP : Clo (pCall d) yX4_dropTruck cX4_dropTruck none 3 0 0 Q P) (o : Nat) (x2 : Int) (hg : gWl g o) (h : iR (x2 + 1) ∧ iR (σ o 7) ∧ ((σ o 7) ≤ (x2 + 1) → Q [] g (up2 σ o 7 ((σ o 7) - 1))) ∧ (¬ ((σ o 7) ≤ (x2 + 1)) → (0 ≤ (x2 + 1) ∧ (x2 + 1) < 9) ∧ (0 ≤ x2 ∧ x2 < 9) ∧ (0 ≤ (x2 + 1) ∧ (x2 + 1) < 9) ∧ (0 ≤ x2 ∧ x2 < 9) ∧ P 11 [(0, vR (some o)), (2, vI (x2 + 1))] [] g (up2 (up2 σ (o + 4) (Int.toNat x2) (σ (o + 4) (Int.toNat (x2 + 1)))) (o + 5) (Int.toNat x2) ((up2 σ (o + 4) (Int.toNat x2) (σ (o + 4) (Int.toNat (x2 + 1)))) (o + 5) (Int.toNat (x2 + 1)))) 0 0)) : P 11 [(0, vR (some o)), (2, vI x2)] [] g σ 0 0 := by
  refine x_iloadn hP 12 2 dX4_dropTruck_11 rfl rfl mm1 ?_
  refine x_iconst hP 13 dX4_dropTruck_12 rfl ?_
  refine x_iadd hP 14 dX4_dropTruck_13 rfl ?_
  refine x_aloadn hP 15 0 dX4_dropTruck_14 rfl rfl mm0 ?_
  refine x_geti hP 18 dX4_dropTruck_15 rfl fl_RX4_59 hg.o (by decide) rfl ?_
  obtain ⟨hs1, hs2, h⟩ := h
  refine x_icmp hP 21 55 ((σ o 7) ≤ (x2 + 1)) dX4_dropTruck_18 rfl rfl hs1 hs2 rfl (fun hbr => ?_) (fun hbr => ?_)
  · replace h := h.1 hbr
    refine x_aloadn hP 56 0 dX4_dropTruck_55 rfl rfl mm0 ?_
    refine x_dup hP 57 dX4_dropTruck_56 rfl rfl ?_
    refine x_geti hP 60 dX4_dropTruck_57 rfl fl_RX4_59 hg.o (by decide) rfl ?_
    refine x_iconst hP 61 dX4_dropTruck_60 rfl ?_
    refine x_isub hP 62 dX4_dropTruck_61 rfl ?_
    refine x_putf hP 65 dX4_dropTruck_62 rfl fl_RX4_59 hg.o (by decide) rfl rfl (fun hz => absurd hz (by decide)) ?_
    exact x_vret hP dX4_dropTruck_65 ⟨Nat.le_refl _, Nat.le_refl _⟩ h
  · replace h := h.2 hbr
    refine x_aloadn hP 22 0 dX4_dropTruck_21 rfl rfl mm0 ?_
    refine x_getr hP 25 (o + 4) dX4_dropTruck_22 rfl fl_RX4_31 hg.o (by decide) rfl hg.r4 ?_
    refine x_iloadn hP 26 2 dX4_dropTruck_25 rfl rfl mm1 ?_
    refine x_aloadn hP 27 0 dX4_dropTruck_26 rfl rfl mm0 ?_
    refine x_getr hP 30 (o + 4) dX4_dropTruck_27 rfl fl_RX4_31 hg.o (by decide) rfl hg.r4 ?_
    refine x_iloadn hP 31 2 dX4_dropTruck_30 rfl rfl mm1 ?_
    refine x_iconst hP 32 dX4_dropTruck_31 rfl ?_
    refine x_iadd hP 33 dX4_dropTruck_32 rfl ?_
    obtain ⟨hs, h⟩ := h
    refine x_iald hP 34 dX4_dropTruck_33 rfl hg.a4 (by decide) hs ?_
    obtain ⟨hs1, h⟩ := h
    refine x_iast hP 35 dX4_dropTruck_34 rfl hg.a4 (by decide) hs1 ?_
    refine x_aloadn hP 36 0 dX4_dropTruck_35 rfl rfl mm0 ?_
    refine x_getr hP 39 (o + 5) dX4_dropTruck_36 rfl fl_RX4_34 hg.o (by decide) rfl hg.r5 ?_
    refine x_iloadn hP 40 2 dX4_dropTruck_39 rfl rfl mm1 ?_
    refine x_aloadn hP 41 0 dX4_dropTruck_40 rfl rfl mm0 ?_
    refine x_getr hP 44 (o + 5) dX4_dropTruck_41 rfl fl_RX4_34 hg.o (by decide) rfl hg.r5 ?_
    refine x_iloadn hP 45 2 dX4_dropTruck_44 rfl rfl mm1 ?_
    refine x_iconst hP 46 dX4_dropTruck_45 rfl ?_
    refine x_iadd hP 47 dX4_dropTruck_46 rfl ?_
    obtain ⟨hs, h⟩ := h
    refine x_iald hP 48 dX4_dropTruck_47 rfl hg.a5 (by decide) hs ?_
    obtain ⟨hs1, h⟩ := h
    refine x_iast hP 49 dX4_dropTruck_48 rfl hg.a5 (by decide) hs1 ?_
    refine x_iinc hP 52 [(0, vR (some o)), (2, vI (x2 + 1))] dX4_dropTruck_49 rfl mm1 (by decide) rfl rfl ?_
    refine x_goto hP 11 dX4_dropTruck_52 rfl ?_
    exact h
theorem k_X4_broughtBy_0 {d : Nat} {Q : pQ} {P : pP} {g : pG} {σ : pM} (hP : Clo (pCall d) yX4_broughtBy cX4_broughtBy (some .int) 4 0 0 Q P) (o : Nat) (a : Int) (hg : gWl g o) (h : P 4 [(0, vR (some o)), (1, vI a), (2, vI 0), (3, vI 0)] [] g σ 0 0) : P 0 [(0, vR (some o)), (1, vI a)] [] g σ 0 0 := by
  refine x_iconst hP 1 dX4_broughtBy_0 rfl ?_
  refine x_istoren hP 2 2 [(0, vR (some o)), (1, vI a), (2, vI 0)] dX4_broughtBy_1 rfl rfl (by decide) rfl rfl ?_
  refine x_iconst hP 3 dX4_broughtBy_2 rfl ?_
  refine x_istoren hP 4 3 [(0, vR (some o)), (1, vI a), (2, vI 0), (3, vI 0)] dX4_broughtBy_3 rfl rfl (by decide) rfl rfl ?_
  exact h
theorem k_X4_broughtBy_4 {d : Nat} {Q : pQ} {P : pP} {g : pG} {σ : pM} (hP : Clo (pCall d) yX4_broughtBy cX4_broughtBy (some .int) 4 0 0 Q P) (o : Nat) (x1 : Int) (x2 : Int) (x3 : Int) (hg : gWl g o) (h : iR x3 ∧ iR (σ o 7) ∧ ((σ o 7) ≤ x3 → Q [vI x2] g σ) ∧ (¬ ((σ o 7) ≤ x3) → (0 ≤ x3 ∧ x3 < 9) ∧ iR (σ (o + 4) (Int.toNat x3)) ∧ iR x1 ∧ (x1 < (σ (o + 4) (Int.toNat x3)) → P 4 [(0, vR (some o)), (1, vI x1), (2, vI x2), (3, vI (x3 + 1))] [] g σ 0 0) ∧ (¬ (x1 < (σ (o + 4) (Int.toNat x3))) → (0 ≤ x3 ∧ x3 < 9) ∧ P 4 [(0, vR (some o)), (1, vI x1), (2, vI (x2 + (σ (o + 5) (Int.toNat x3)))), (3, vI (x3 + 1))] [] g σ 0 0))) : P 4 [(0, vR (some o)), (1, vI x1), (2, vI x2), (3, vI x3)] [] g σ 0 0 := by
  refine x_iloadn hP 5 3 dX4_broughtBy_4 rfl rfl mm3 ?_
  refine x_aloadn hP 6 0 dX4_broughtBy_5 rfl rfl mm0 ?_
  refine x_geti hP 9 dX4_broughtBy_6 rfl fl_RX4_59 hg.o (by decide) rfl ?_
  obtain ⟨hs1, hs2, h⟩ := h
  refine x_icmp hP 12 37 ((σ o 7) ≤ x3) dX4_broughtBy_9 rfl rfl hs1 hs2 rfl (fun hbr => ?_) (fun hbr => ?_)
  · replace h := h.1 hbr
    refine x_iloadn hP 38 2 dX4_broughtBy_37 rfl rfl mm2 ?_
    exact x_iret hP dX4_broughtBy_38 ⟨Nat.le_refl _, Nat.le_refl _⟩ h
  · replace h := h.2 hbr
    refine x_aloadn hP 13 0 dX4_broughtBy_12 rfl rfl mm0 ?_
    refine x_getr hP 16 (o + 4) dX4_broughtBy_13 rfl fl_RX4_31 hg.o (by decide) rfl hg.r4 ?_
    refine x_iloadn hP 17 3 dX4_broughtBy_16 rfl rfl mm3 ?_
    obtain ⟨hs, h⟩ := h
    refine x_iald hP 18 dX4_broughtBy_17 rfl hg.a4 (by decide) hs ?_
    refine x_iloadn hP 19 1 dX4_broughtBy_18 rfl rfl mm1 ?_
    obtain ⟨hs1, hs2, h⟩ := h
    refine x_icmp hP 22 31 (x1 < (σ (o + 4) (Int.toNat x3))) dX4_broughtBy_19 rfl rfl hs1 hs2 rfl (fun hbr => ?_) (fun hbr => ?_)
    · replace h := h.1 hbr
      refine x_iinc hP 34 [(0, vR (some o)), (1, vI x1), (2, vI x2), (3, vI (x3 + 1))] dX4_broughtBy_31 rfl mm3 (by decide) rfl rfl ?_
      refine x_goto hP 4 dX4_broughtBy_34 rfl ?_
      exact h
    · replace h := h.2 hbr
      refine x_iloadn hP 23 2 dX4_broughtBy_22 rfl rfl mm2 ?_
      refine x_aloadn hP 24 0 dX4_broughtBy_23 rfl rfl mm0 ?_
      refine x_getr hP 27 (o + 5) dX4_broughtBy_24 rfl fl_RX4_34 hg.o (by decide) rfl hg.r5 ?_
      refine x_iloadn hP 28 3 dX4_broughtBy_27 rfl rfl mm3 ?_
      obtain ⟨hs, h⟩ := h
      refine x_iald hP 29 dX4_broughtBy_28 rfl hg.a5 (by decide) hs ?_
      refine x_iadd hP 30 dX4_broughtBy_29 rfl ?_
      refine x_istoren hP 31 2 [(0, vR (some o)), (1, vI x1), (2, vI (x2 + (σ (o + 5) (Int.toNat x3)))), (3, vI x3)] dX4_broughtBy_30 rfl rfl (by decide) rfl rfl ?_
      refine x_iinc hP 34 [(0, vR (some o)), (1, vI x1), (2, vI (x2 + (σ (o + 5) (Int.toNat x3)))), (3, vI (x3 + 1))] dX4_broughtBy_31 rfl mm3 (by decide) rfl rfl ?_
      refine x_goto hP 4 dX4_broughtBy_34 rfl ?_
      exact h
theorem k_X4_broughtAt_0 {d : Nat} {Q : pQ} {P : pP} {g : pG} {σ : pM} (hP : Clo (pCall d) yX4_broughtAt cX4_broughtAt (some .int) 5 0 0 Q P) (o : Nat) (a : Int) (hg : gWl g o) (h : P 4 [(0, vR (some o)), (1, vI a), (2, vI ((-1))), (3, vI 0)] [] g σ 0 0) : P 0 [(0, vR (some o)), (1, vI a)] [] g σ 0 0 := by
  refine x_iconst hP 1 dX4_broughtAt_0 rfl ?_
  refine x_istoren hP 2 2 [(0, vR (some o)), (1, vI a), (2, vI ((-1)))] dX4_broughtAt_1 rfl rfl (by decide) rfl rfl ?_
  refine x_iconst hP 3 dX4_broughtAt_2 rfl ?_
  refine x_istoren hP 4 3 [(0, vR (some o)), (1, vI a), (2, vI ((-1))), (3, vI 0)] dX4_broughtAt_3 rfl rfl (by decide) rfl rfl ?_
  exact h
theorem k_X4_broughtAt_4 {d : Nat} {Q : pQ} {P : pP} {g : pG} {σ : pM} (hP : Clo (pCall d) yX4_broughtAt cX4_broughtAt (some .int) 5 0 0 Q P) (o : Nat) (x1 : Int) (x2 : Int) (x3 : Int) (hg : gWl g o) (h : iR x3 ∧ iR (σ o 7) ∧ ((σ o 7) ≤ x3 → Q [vI x2] g σ) ∧ (¬ ((σ o 7) ≤ x3) → (0 ≤ x3 ∧ x3 < 9) ∧ iR x2 ∧ (x2 = ((-1)) → ∃ (v1 : Int), Ca d yX4_broughtBy [vR (some o), vI (σ (o + 4) (Int.toNat x3))] g σ [vI v1] g σ ∧ iR v1 ∧ iR x1 ∧ (v1 < x1 → P 4 [(0, vR (some o)), (1, vI x1), (2, vI x2), (3, vI (x3 + 1))] [] g σ 0 0) ∧ (¬ (v1 < x1) → P 4 [(0, vR (some o)), (1, vI x1), (2, vI (σ (o + 4) (Int.toNat x3))), (3, vI (x3 + 1))] [] g σ 0 0)) ∧ (¬ (x2 = ((-1))) → iR (σ (o + 4) (Int.toNat x3)) ∧ iR x2 ∧ (x2 ≤ (σ (o + 4) (Int.toNat x3)) → P 4 [(0, vR (some o)), (1, vI x1), (2, vI x2), (3, vI (x3 + 1))] [] g σ 0 0) ∧ (¬ (x2 ≤ (σ (o + 4) (Int.toNat x3))) → ∃ (v2 : Int), Ca d yX4_broughtBy [vR (some o), vI (σ (o + 4) (Int.toNat x3))] g σ [vI v2] g σ ∧ iR v2 ∧ iR x1 ∧ (v2 < x1 → P 4 [(0, vR (some o)), (1, vI x1), (2, vI x2), (3, vI (x3 + 1))] [] g σ 0 0) ∧ (¬ (v2 < x1) → P 4 [(0, vR (some o)), (1, vI x1), (2, vI (σ (o + 4) (Int.toNat x3))), (3, vI (x3 + 1))] [] g σ 0 0))))) : P 4 [(0, vR (some o)), (1, vI x1), (2, vI x2), (3, vI x3)] [] g σ 0 0 := by
  refine x_iloadn hP 5 3 dX4_broughtAt_4 rfl rfl mm3 ?_
  refine x_aloadn hP 6 0 dX4_broughtAt_5 rfl rfl mm0 ?_
  refine x_geti hP 9 dX4_broughtAt_6 rfl fl_RX4_59 hg.o (by decide) rfl ?_
  obtain ⟨hs1, hs2, h⟩ := h
  refine x_icmp hP 12 50 ((σ o 7) ≤ x3) dX4_broughtAt_9 rfl rfl hs1 hs2 rfl (fun hbr => ?_) (fun hbr => ?_)
  · replace h := h.1 hbr
    refine x_iloadn hP 51 2 dX4_broughtAt_50 rfl rfl mm2 ?_
    exact x_iret hP dX4_broughtAt_51 ⟨Nat.le_refl _, Nat.le_refl _⟩ h
  · replace h := h.2 hbr
    refine x_aloadn hP 13 0 dX4_broughtAt_12 rfl rfl mm0 ?_
    refine x_getr hP 16 (o + 4) dX4_broughtAt_13 rfl fl_RX4_31 hg.o (by decide) rfl hg.r4 ?_
    refine x_iloadn hP 17 3 dX4_broughtAt_16 rfl rfl mm3 ?_
    obtain ⟨hs, h⟩ := h
    refine x_iald hP 18 dX4_broughtAt_17 rfl hg.a4 (by decide) hs ?_
    refine x_istore hP 20 [(0, vR (some o)), (1, vI x1), (2, vI x2), (3, vI x3), (4, vI (σ (o + 4) (Int.toNat x3)))] dX4_broughtAt_18 rfl (by decide) rfl rfl ?_
    refine x_iloadn hP 21 2 dX4_broughtAt_20 rfl rfl mm2 ?_
    refine x_iconst hP 22 dX4_broughtAt_21 rfl ?_
    obtain ⟨hs1, h⟩ := h
    refine x_icmp hP 25 31 (x2 = ((-1))) dX4_broughtAt_22 rfl rfl hs1 (by decide) rfl (fun hbr => ?_) (fun hbr => ?_)
    · replace h := h.1 hbr
      refine x_aloadn hP 32 0 dX4_broughtAt_31 rfl rfl mm0 ?_
      refine x_iload hP 34 dX4_broughtAt_32 rfl mm4 ?_
      obtain ⟨v1, hc, h⟩ := h
      refine x_cv hP 37 [vI (σ (o + 4) (Int.toNat x3))] [] dX4_broughtAt_34 rfl hg.o (by decide) rfl ml_RX4_106 im_X4_broughtBy se_X4_broughtBy it_RX4 pp_X4_broughtBy bd_X4_broughtBy rfl rfl ⟨Nat.le_refl _, Nat.le_refl _⟩ (by simp [pC]) hc ?_
      refine x_iloadn hP 38 1 dX4_broughtAt_37 rfl rfl mm1 ?_
      obtain ⟨hs1, hs2, h⟩ := h
      refine x_icmp hP 41 44 (v1 < x1) dX4_broughtAt_38 rfl rfl hs1 hs2 rfl (fun hbr => ?_) (fun hbr => ?_)
      · replace h := h.1 hbr
        refine x_iinc hP 47 [(0, vR (some o)), (1, vI x1), (2, vI x2), (3, vI (x3 + 1)), (4, vI (σ (o + 4) (Int.toNat x3)))] dX4_broughtAt_44 rfl mm3 (by decide) rfl rfl ?_
        refine x_goto hP 4 dX4_broughtAt_47 rfl ?_
        exact x_sub hP [0, 1, 2, 3] rfl h
      · replace h := h.2 hbr
        refine x_iload hP 43 dX4_broughtAt_41 rfl mm4 ?_
        refine x_istoren hP 44 2 [(0, vR (some o)), (1, vI x1), (2, vI (σ (o + 4) (Int.toNat x3))), (3, vI x3), (4, vI (σ (o + 4) (Int.toNat x3)))] dX4_broughtAt_43 rfl rfl (by decide) rfl rfl ?_
        refine x_iinc hP 47 [(0, vR (some o)), (1, vI x1), (2, vI (σ (o + 4) (Int.toNat x3))), (3, vI (x3 + 1)), (4, vI (σ (o + 4) (Int.toNat x3)))] dX4_broughtAt_44 rfl mm3 (by decide) rfl rfl ?_
        refine x_goto hP 4 dX4_broughtAt_47 rfl ?_
        exact x_sub hP [0, 1, 2, 3] rfl h
    · replace h := h.2 hbr
      refine x_iload hP 27 dX4_broughtAt_25 rfl mm4 ?_
      refine x_iloadn hP 28 2 dX4_broughtAt_27 rfl rfl mm2 ?_
      obtain ⟨hs1, hs2, h⟩ := h
      refine x_icmp hP 31 44 (x2 ≤ (σ (o + 4) (Int.toNat x3))) dX4_broughtAt_28 rfl rfl hs1 hs2 rfl (fun hbr => ?_) (fun hbr => ?_)
      · replace h := h.1 hbr
        refine x_iinc hP 47 [(0, vR (some o)), (1, vI x1), (2, vI x2), (3, vI (x3 + 1)), (4, vI (σ (o + 4) (Int.toNat x3)))] dX4_broughtAt_44 rfl mm3 (by decide) rfl rfl ?_
        refine x_goto hP 4 dX4_broughtAt_47 rfl ?_
        exact x_sub hP [0, 1, 2, 3] rfl h
      · replace h := h.2 hbr
        refine x_aloadn hP 32 0 dX4_broughtAt_31 rfl rfl mm0 ?_
        refine x_iload hP 34 dX4_broughtAt_32 rfl mm4 ?_
        obtain ⟨v2, hc, h⟩ := h
        refine x_cv hP 37 [vI (σ (o + 4) (Int.toNat x3))] [] dX4_broughtAt_34 rfl hg.o (by decide) rfl ml_RX4_106 im_X4_broughtBy se_X4_broughtBy it_RX4 pp_X4_broughtBy bd_X4_broughtBy rfl rfl ⟨Nat.le_refl _, Nat.le_refl _⟩ (by simp [pC]) hc ?_
        refine x_iloadn hP 38 1 dX4_broughtAt_37 rfl rfl mm1 ?_
        obtain ⟨hs1, hs2, h⟩ := h
        refine x_icmp hP 41 44 (v2 < x1) dX4_broughtAt_38 rfl rfl hs1 hs2 rfl (fun hbr => ?_) (fun hbr => ?_)
        · replace h := h.1 hbr
          refine x_iinc hP 47 [(0, vR (some o)), (1, vI x1), (2, vI x2), (3, vI (x3 + 1)), (4, vI (σ (o + 4) (Int.toNat x3)))] dX4_broughtAt_44 rfl mm3 (by decide) rfl rfl ?_
          refine x_goto hP 4 dX4_broughtAt_47 rfl ?_
          exact x_sub hP [0, 1, 2, 3] rfl h
        · replace h := h.2 hbr
          refine x_iload hP 43 dX4_broughtAt_41 rfl mm4 ?_
          refine x_istoren hP 44 2 [(0, vR (some o)), (1, vI x1), (2, vI (σ (o + 4) (Int.toNat x3))), (3, vI x3), (4, vI (σ (o + 4) (Int.toNat x3)))] dX4_broughtAt_43 rfl rfl (by decide) rfl rfl ?_
          refine x_iinc hP 47 [(0, vR (some o)), (1, vI x1), (2, vI (σ (o + 4) (Int.toNat x3))), (3, vI (x3 + 1)), (4, vI (σ (o + 4) (Int.toNat x3)))] dX4_broughtAt_44 rfl mm3 (by decide) rfl rfl ?_
          refine x_goto hP 4 dX4_broughtAt_47 rfl ?_
          exact x_sub hP [0, 1, 2, 3] rfl h
theorem k_X4_usedLoads_0 {d : Nat} {Q : pQ} {P : pP} {g : pG} {σ : pM} (hP : Clo (pCall d) yX4_usedLoads cX4_usedLoads (some .int) 3 0 0 Q P) (o : Nat) (hg : gWl g o) (h : P 4 [(0, vR (some o)), (1, vI 0), (2, vI 0)] [] g σ 0 0) : P 0 [(0, vR (some o))] [] g σ 0 0 := by
  refine x_iconst hP 1 dX4_usedLoads_0 rfl ?_
  refine x_istoren hP 2 1 [(0, vR (some o)), (1, vI 0)] dX4_usedLoads_1 rfl rfl (by decide) rfl rfl ?_
  refine x_iconst hP 3 dX4_usedLoads_2 rfl ?_
  refine x_istoren hP 4 2 [(0, vR (some o)), (1, vI 0), (2, vI 0)] dX4_usedLoads_3 rfl rfl (by decide) rfl rfl ?_
  exact h
theorem k_X4_usedLoads_4 {d : Nat} {Q : pQ} {P : pP} {g : pG} {σ : pM} (hP : Clo (pCall d) yX4_usedLoads cX4_usedLoads (some .int) 3 0 0 Q P) (o : Nat) (x1 : Int) (x2 : Int) (hg : gWl g o) (h : iR x2 ∧ iR (σ o 2) ∧ ((σ o 2) ≤ x2 → Q [vI x1] g σ) ∧ (¬ ((σ o 2) ≤ x2) → ∃ (v1 : Int), Ca d yX4_isPoured [vR (some o), vI x2] g σ [vI v1] g σ ∧ iR v1 ∧ (v1 = 0 → P 4 [(0, vR (some o)), (1, vI x1), (2, vI (x2 + 1))] [] g σ 0 0) ∧ (¬ (v1 = 0) → (0 ≤ x2 ∧ x2 < 9) ∧ P 4 [(0, vR (some o)), (1, vI (x1 + (σ (o + 1) (Int.toNat x2)))), (2, vI (x2 + 1))] [] g σ 0 0))) : P 4 [(0, vR (some o)), (1, vI x1), (2, vI x2)] [] g σ 0 0 := by
  refine x_iloadn hP 5 2 dX4_usedLoads_4 rfl rfl mm2 ?_
  refine x_aloadn hP 6 0 dX4_usedLoads_5 rfl rfl mm0 ?_
  refine x_geti hP 9 dX4_usedLoads_6 rfl fl_RX4_53 hg.o (by decide) rfl ?_
  obtain ⟨hs1, hs2, h⟩ := h
  refine x_icmp hP 12 35 ((σ o 2) ≤ x2) dX4_usedLoads_9 rfl rfl hs1 hs2 rfl (fun hbr => ?_) (fun hbr => ?_)
  · replace h := h.1 hbr
    refine x_iloadn hP 36 1 dX4_usedLoads_35 rfl rfl mm1 ?_
    exact x_iret hP dX4_usedLoads_36 ⟨Nat.le_refl _, Nat.le_refl _⟩ h
  · replace h := h.2 hbr
    refine x_aloadn hP 13 0 dX4_usedLoads_12 rfl rfl mm0 ?_
    refine x_iloadn hP 14 2 dX4_usedLoads_13 rfl rfl mm2 ?_
    obtain ⟨v1, hc, h⟩ := h
    refine x_cv hP 17 [vI x2] [] dX4_usedLoads_14 rfl hg.o (by decide) rfl ml_RX4_70 im_X4_isPoured se_X4_isPoured it_RX4 pp_X4_isPoured bd_X4_isPoured rfl rfl ⟨Nat.le_refl _, Nat.le_refl _⟩ (by simp [pC]) hc ?_
    obtain ⟨hs1, h⟩ := h
    refine x_ifc hP 20 29 (v1 = 0) dX4_usedLoads_17 rfl rfl hs1 rfl (fun hbr => ?_) (fun hbr => ?_)
    · replace h := h.1 hbr
      refine x_iinc hP 32 [(0, vR (some o)), (1, vI x1), (2, vI (x2 + 1))] dX4_usedLoads_29 rfl mm2 (by decide) rfl rfl ?_
      refine x_goto hP 4 dX4_usedLoads_32 rfl ?_
      exact h
    · replace h := h.2 hbr
      refine x_iloadn hP 21 1 dX4_usedLoads_20 rfl rfl mm1 ?_
      refine x_aloadn hP 22 0 dX4_usedLoads_21 rfl rfl mm0 ?_
      refine x_getr hP 25 (o + 1) dX4_usedLoads_22 rfl fl_RX4_21 hg.o (by decide) rfl hg.r1 ?_
      refine x_iloadn hP 26 2 dX4_usedLoads_25 rfl rfl mm2 ?_
      obtain ⟨hs, h⟩ := h
      refine x_iald hP 27 dX4_usedLoads_26 rfl hg.a1 (by decide) hs ?_
      refine x_iadd hP 28 dX4_usedLoads_27 rfl ?_
      refine x_istoren hP 29 1 [(0, vR (some o)), (1, vI (x1 + (σ (o + 1) (Int.toNat x2)))), (2, vI x2)] dX4_usedLoads_28 rfl rfl (by decide) rfl rfl ?_
      refine x_iinc hP 32 [(0, vR (some o)), (1, vI (x1 + (σ (o + 1) (Int.toNat x2)))), (2, vI (x2 + 1))] dX4_usedLoads_29 rfl mm2 (by decide) rfl rfl ?_
      refine x_goto hP 4 dX4_usedLoads_32 rfl ?_
      exact h
theorem k_X4_stock_0 {d : Nat} {Q : pQ} {P : pP} {g : pG} {σ : pM} (hP : Clo (pCall d) yX4_stock cX4_stock (some .int) 1 0 0 Q P) (o : Nat) (hg : gWl g o) (h : ∃ (v1 : Int), Ca d yX4_broughtBy [vR (some o), vI (σ o 3)] g σ [vI v1] g σ ∧ ∃ (v2 : Int), Ca d yX4_usedLoads [vR (some o)] g σ [vI v2] g σ ∧ Q [vI (v1 - v2)] g σ) : P 0 [(0, vR (some o))] [] g σ 0 0 := by
  refine x_aloadn hP 1 0 dX4_stock_0 rfl rfl mm0 ?_
  refine x_aloadn hP 2 0 dX4_stock_1 rfl rfl mm0 ?_
  refine x_geti hP 5 dX4_stock_2 rfl fl_RX4_56 hg.o (by decide) rfl ?_
  obtain ⟨v1, hc, h⟩ := h
  refine x_cv hP 8 [vI (σ o 3)] [] dX4_stock_5 rfl hg.o (by decide) rfl ml_RX4_106 im_X4_broughtBy se_X4_broughtBy it_RX4 pp_X4_broughtBy bd_X4_broughtBy rfl rfl ⟨Nat.le_refl _, Nat.le_refl _⟩ (by simp [pC]) hc ?_
  refine x_aloadn hP 9 0 dX4_stock_8 rfl rfl mm0 ?_
  obtain ⟨v2, hc, h⟩ := h
  refine x_cv hP 12 [] [vI v1] dX4_stock_9 rfl hg.o (by decide) rfl ml_RX4_90 im_X4_usedLoads se_X4_usedLoads it_RX4 pp_X4_usedLoads bd_X4_usedLoads rfl rfl ⟨Nat.le_refl _, Nat.le_refl _⟩ (by simp [pC]) hc ?_
  refine x_isub hP 13 dX4_stock_12 rfl ?_
  exact x_iret hP dX4_stock_13 ⟨Nat.le_refl _, Nat.le_refl _⟩ h
theorem k_X4_edges_0 {d : Nat} {Q : pQ} {P : pP} {g : pG} {σ : pM} (hP : Clo (pCall d) yX4_edges cX4_edges (some .int) 1 0 0 Q P) (o : Nat) (hg : gWl g o) (h : Q [vI (3 * (σ o 2))] g σ) : P 0 [(0, vR (some o))] [] g σ 0 0 := by
  refine x_iconst hP 1 dX4_edges_0 rfl ?_
  refine x_aloadn hP 2 0 dX4_edges_1 rfl rfl mm0 ?_
  refine x_geti hP 5 dX4_edges_2 rfl fl_RX4_53 hg.o (by decide) rfl ?_
  refine x_imul hP 6 dX4_edges_5 rfl ?_
  exact x_iret hP dX4_edges_6 ⟨Nat.le_refl _, Nat.le_refl _⟩ h
theorem k_X4_across_0 {d : Nat} {Q : pQ} {P : pP} {g : pG} {σ : pM} (hP : Clo (pCall d) yX4_across cX4_across (some .int) 4 0 0 Q P) (o : Nat) (a : Int) (hg : gWl g o) (h : iR a ∧ iR a ∧ (a < 0 → Q [vI ((-1))] g σ) ∧ (¬ (a < 0) → iR (Int.tdiv a 3) ∧ iR (σ o 2) ∧ ((σ o 2) ≤ (Int.tdiv a 3) → Q [vI ((-1))] g σ) ∧ (¬ ((σ o 2) ≤ (Int.tdiv a 3)) → iR (σ o 0) ∧ (1 ≤ (σ o 0) → (iR (Int.tdiv a 3) ∧ iR (σ o 0) ∧ (σ o 0) ≠ 0) ∧ iR a ∧ iR (Int.tmod a 3) ∧ (¬ (Int.tmod a 3) = 0 ∧ ¬ (Int.tmod a 3) = 1 → iR (Int.tmod (Int.tdiv a 3) (σ o 0)) ∧ ((Int.tmod (Int.tdiv a 3) (σ o 0)) ≤ 0 → Q [vI ((-1))] g σ) ∧ (¬ ((Int.tmod (Int.tdiv a 3) (σ o 0)) ≤ 0) → Q [vI ((Int.tdiv a 3) - 1)] g σ)) ∧ ((Int.tmod a 3) = 0 → iR ((Int.tdiv a 3) + (σ o 0)) ∧ iR (σ o 2) ∧ ((σ o 2) ≤ ((Int.tdiv a 3) + (σ o 0)) → Q [vI ((-1))] g σ) ∧ (¬ ((σ o 2) ≤ ((Int.tdiv a 3) + (σ o 0))) → Q [vI ((Int.tdiv a 3) + (σ o 0))] g σ)) ∧ ((Int.tmod a 3) = 1 → iR ((Int.tmod (Int.tdiv a 3) (σ o 0)) + 1) ∧ iR (σ o 0) ∧ ((σ o 0) ≤ ((Int.tmod (Int.tdiv a 3) (σ o 0)) + 1) → Q [vI ((-1))] g σ) ∧ (¬ ((σ o 0) ≤ ((Int.tmod (Int.tdiv a 3) (σ o 0)) + 1)) → Q [vI ((Int.tdiv a 3) + 1)] g σ))) ∧ (¬ (1 ≤ (σ o 0)) → Q [vI ((-1))] g σ)))) : P 0 [(0, vR (some o)), (1, vI a)] [] g σ 0 0 := by
  refine x_iloadn hP 1 1 dX4_across_0 rfl rfl mm1 ?_
  refine x_iconst hP 2 dX4_across_1 rfl ?_
  obtain ⟨hs, h⟩ := h
  refine x_idiv hP 3 dX4_across_2 rfl hs (by decide) (by decide) ?_
  refine x_istoren hP 4 2 [(0, vR (some o)), (1, vI a), (2, vI (Int.tdiv a 3))] dX4_across_3 rfl rfl (by decide) rfl rfl ?_
  refine x_iloadn hP 5 1 dX4_across_4 rfl rfl mm1 ?_
  obtain ⟨hs1, h⟩ := h
  refine x_ifc hP 8 24 (a < 0) dX4_across_5 rfl rfl hs1 rfl (fun hbr => ?_) (fun hbr => ?_)
  · replace h := h.1 hbr
    refine x_iconst hP 25 dX4_across_24 rfl ?_
    exact x_iret hP dX4_across_25 ⟨Nat.le_refl _, Nat.le_refl _⟩ h
  · replace h := h.2 hbr
    refine x_iloadn hP 9 2 dX4_across_8 rfl rfl mm2 ?_
    refine x_aloadn hP 10 0 dX4_across_9 rfl rfl mm0 ?_
    refine x_geti hP 13 dX4_across_10 rfl fl_RX4_53 hg.o (by decide) rfl ?_
    obtain ⟨hs1, hs2, h⟩ := h
    refine x_icmp hP 16 24 ((σ o 2) ≤ (Int.tdiv a 3)) dX4_across_13 rfl rfl hs1 hs2 rfl (fun hbr => ?_) (fun hbr => ?_)
    · replace h := h.1 hbr
      refine x_iconst hP 25 dX4_across_24 rfl ?_
      exact x_iret hP dX4_across_25 ⟨Nat.le_refl _, Nat.le_refl _⟩ h
    · replace h := h.2 hbr
      refine x_aloadn hP 17 0 dX4_across_16 rfl rfl mm0 ?_
      refine x_geti hP 20 dX4_across_17 rfl fl_RX4_41 hg.o (by decide) rfl ?_
      refine x_iconst hP 21 dX4_across_20 rfl ?_
      obtain ⟨hs1, h⟩ := h
      refine x_icmp hP 24 26 (1 ≤ (σ o 0)) dX4_across_21 rfl rfl hs1 (by decide) rfl (fun hbr => ?_) (fun hbr => ?_)
      · replace h := h.1 hbr
        refine x_iloadn hP 27 2 dX4_across_26 rfl rfl mm2 ?_
        refine x_aloadn hP 28 0 dX4_across_27 rfl rfl mm0 ?_
        refine x_geti hP 31 dX4_across_28 rfl fl_RX4_41 hg.o (by decide) rfl ?_
        obtain ⟨hs, h⟩ := h
        refine x_irem hP 32 dX4_across_31 rfl hs.1 hs.2.1 hs.2.2 ?_
        refine x_istoren hP 33 3 [(0, vR (some o)), (1, vI a), (2, vI (Int.tdiv a 3)), (3, vI (Int.tmod (Int.tdiv a 3) (σ o 0)))] dX4_across_32 rfl rfl (by decide) rfl rfl ?_
        refine x_iloadn hP 34 1 dX4_across_33 rfl rfl mm1 ?_
        refine x_iconst hP 35 dX4_across_34 rfl ?_
        obtain ⟨hs, h⟩ := h
        refine x_irem hP 36 dX4_across_35 rfl hs (by decide) (by decide) ?_
        obtain ⟨hs, hd, hc0, hc1⟩ := h
        by_cases e0 : (Int.tmod a 3) = 0
        · have h := hc0 e0
          refine x_lsw hP 64 dX4_across_36 hs rfl (show _ = (28 : Int) by rw [e0]; rfl) rfl ?_
          refine x_iloadn hP 65 2 dX4_across_64 rfl rfl mm2 ?_
          refine x_aloadn hP 66 0 dX4_across_65 rfl rfl mm0 ?_
          refine x_geti hP 69 dX4_across_66 rfl fl_RX4_41 hg.o (by decide) rfl ?_
          refine x_iadd hP 70 dX4_across_69 rfl ?_
          refine x_aloadn hP 71 0 dX4_across_70 rfl rfl mm0 ?_
          refine x_geti hP 74 dX4_across_71 rfl fl_RX4_53 hg.o (by decide) rfl ?_
          obtain ⟨hs1, hs2, h⟩ := h
          refine x_icmp hP 77 86 ((σ o 2) ≤ ((Int.tdiv a 3) + (σ o 0))) dX4_across_74 rfl rfl hs1 hs2 rfl (fun hbr => ?_) (fun hbr => ?_)
          · replace h := h.1 hbr
            refine x_iconst hP 87 dX4_across_86 rfl ?_
            exact x_iret hP dX4_across_87 ⟨Nat.le_refl _, Nat.le_refl _⟩ h
          · replace h := h.2 hbr
            refine x_iloadn hP 78 2 dX4_across_77 rfl rfl mm2 ?_
            refine x_aloadn hP 79 0 dX4_across_78 rfl rfl mm0 ?_
            refine x_geti hP 82 dX4_across_79 rfl fl_RX4_41 hg.o (by decide) rfl ?_
            refine x_iadd hP 83 dX4_across_82 rfl ?_
            refine x_goto hP 87 dX4_across_83 rfl ?_
            exact x_iret hP dX4_across_87 ⟨Nat.le_refl _, Nat.le_refl _⟩ h
        by_cases e1 : (Int.tmod a 3) = 1
        · have h := hc1 e1
          refine x_lsw hP 88 dX4_across_36 hs rfl (show _ = (52 : Int) by rw [e1]; rfl) rfl ?_
          refine x_iloadn hP 89 3 dX4_across_88 rfl rfl mm3 ?_
          refine x_iconst hP 90 dX4_across_89 rfl ?_
          refine x_iadd hP 91 dX4_across_90 rfl ?_
          refine x_aloadn hP 92 0 dX4_across_91 rfl rfl mm0 ?_
          refine x_geti hP 95 dX4_across_92 rfl fl_RX4_41 hg.o (by decide) rfl ?_
          obtain ⟨hs1, hs2, h⟩ := h
          refine x_icmp hP 98 104 ((σ o 0) ≤ ((Int.tmod (Int.tdiv a 3) (σ o 0)) + 1)) dX4_across_95 rfl rfl hs1 hs2 rfl (fun hbr => ?_) (fun hbr => ?_)
          · replace h := h.1 hbr
            refine x_iconst hP 105 dX4_across_104 rfl ?_
            exact x_iret hP dX4_across_105 ⟨Nat.le_refl _, Nat.le_refl _⟩ h
          · replace h := h.2 hbr
            refine x_iloadn hP 99 2 dX4_across_98 rfl rfl mm2 ?_
            refine x_iconst hP 100 dX4_across_99 rfl ?_
            refine x_iadd hP 101 dX4_across_100 rfl ?_
            refine x_goto hP 105 dX4_across_101 rfl ?_
            exact x_iret hP dX4_across_105 ⟨Nat.le_refl _, Nat.le_refl _⟩ h
        have h := hd ⟨e0, e1⟩
        refine x_lsw hP 106 dX4_across_36 hs rfl (show _ = (70 : Int) by simp [Op.lookupswitch.offset, Ne.symm e0, Ne.symm e1]) rfl ?_
        refine x_iloadn hP 107 3 dX4_across_106 rfl rfl mm3 ?_
        obtain ⟨hs1, h⟩ := h
        refine x_ifc hP 110 116 ((Int.tmod (Int.tdiv a 3) (σ o 0)) ≤ 0) dX4_across_107 rfl rfl hs1 rfl (fun hbr => ?_) (fun hbr => ?_)
        · replace h := h.1 hbr
          refine x_iconst hP 117 dX4_across_116 rfl ?_
          exact x_iret hP dX4_across_117 ⟨Nat.le_refl _, Nat.le_refl _⟩ h
        · replace h := h.2 hbr
          refine x_iloadn hP 111 2 dX4_across_110 rfl rfl mm2 ?_
          refine x_iconst hP 112 dX4_across_111 rfl ?_
          refine x_isub hP 113 dX4_across_112 rfl ?_
          refine x_goto hP 117 dX4_across_113 rfl ?_
          exact x_iret hP dX4_across_117 ⟨Nat.le_refl _, Nat.le_refl _⟩ h
      · replace h := h.2 hbr
        refine x_iconst hP 25 dX4_across_24 rfl ?_
        exact x_iret hP dX4_across_25 ⟨Nat.le_refl _, Nat.le_refl _⟩ h
theorem k_X4_isEdge_0 {d : Nat} {Q : pQ} {P : pP} {g : pG} {σ : pM} (hP : Clo (pCall d) yX4_isEdge cX4_isEdge (some .boolean) 2 0 0 Q P) (o : Nat) (a : Int) (hg : gWl g o) (h : ∃ (v1 : Int), Ca d yX4_across [vR (some o), vI a] g σ [vI v1] g σ ∧ iR v1 ∧ (v1 = ((-1)) → Q [vI 0] g σ) ∧ (¬ (v1 = ((-1))) → Q [vI 1] g σ)) : P 0 [(0, vR (some o)), (1, vI a)] [] g σ 0 0 := by
  refine x_aloadn hP 1 0 dX4_isEdge_0 rfl rfl mm0 ?_
  refine x_iloadn hP 2 1 dX4_isEdge_1 rfl rfl mm1 ?_
  obtain ⟨v1, hc, h⟩ := h
  refine x_cv hP 5 [vI a] [] dX4_isEdge_2 rfl hg.o (by decide) rfl ml_RX4_109 im_X4_across se_X4_across it_RX4 pp_X4_across bd_X4_across rfl rfl ⟨Nat.le_refl _, Nat.le_refl _⟩ (by simp [pC]) hc ?_
  refine x_iconst hP 6 dX4_isEdge_5 rfl ?_
  obtain ⟨hs1, h⟩ := h
  refine x_icmp hP 9 13 (v1 = ((-1))) dX4_isEdge_6 rfl rfl hs1 (by decide) rfl (fun hbr => ?_) (fun hbr => ?_)
  · replace h := h.1 hbr
    refine x_iconst hP 14 dX4_isEdge_13 rfl ?_
    exact x_zret hP dX4_isEdge_14 ⟨Nat.le_refl _, Nat.le_refl _⟩ (by decide) h
  · replace h := h.2 hbr
    refine x_iconst hP 10 dX4_isEdge_9 rfl ?_
    refine x_goto hP 14 dX4_isEdge_10 rfl ?_
    exact x_zret hP dX4_isEdge_14 ⟨Nat.le_refl _, Nat.le_refl _⟩ (by decide) h
theorem k_X4_isOpen_0 {d : Nat} {Q : pQ} {P : pP} {g : pG} {σ : pM} (hP : Clo (pCall d) yX4_isOpen cX4_isOpen (some .boolean) 3 0 0 Q P) (o : Nat) (a : Int) (hg : gWl g o) (h : ∃ (v1 : Int), Ca d yX4_across [vR (some o), vI a] g σ [vI v1] g σ ∧ iR v1 ∧ (v1 = ((-1)) → Q [vI 0] g σ) ∧ (¬ (v1 = ((-1))) → iR a ∧ ∃ (v2 : Int), Ca d yX4_isPoured [vR (some o), vI (Int.tdiv a 3)] g σ [vI v2] g σ ∧ iR v2 ∧ (v2 = 0 → Q [vI 0] g σ) ∧ (¬ (v2 = 0) → ∃ (v3 : Int), Ca d yX4_isPoured [vR (some o), vI v1] g σ [vI v3] g σ ∧ iR v3 ∧ (¬ v3 = 0 → Q [vI 0] g σ) ∧ (¬ (¬ v3 = 0) → Q [vI 1] g σ)))) : P 0 [(0, vR (some o)), (1, vI a)] [] g σ 0 0 := by
  refine x_aloadn hP 1 0 dX4_isOpen_0 rfl rfl mm0 ?_
  refine x_iloadn hP 2 1 dX4_isOpen_1 rfl rfl mm1 ?_
  obtain ⟨v1, hc, h⟩ := h
  refine x_cv hP 5 [vI a] [] dX4_isOpen_2 rfl hg.o (by decide) rfl ml_RX4_109 im_X4_across se_X4_across it_RX4 pp_X4_across bd_X4_across rfl rfl ⟨Nat.le_refl _, Nat.le_refl _⟩ (by simp [pC]) hc ?_
  refine x_istoren hP 6 2 [(0, vR (some o)), (1, vI a), (2, vI v1)] dX4_isOpen_5 rfl rfl (by decide) rfl rfl ?_
  refine x_iloadn hP 7 2 dX4_isOpen_6 rfl rfl mm2 ?_
  refine x_iconst hP 8 dX4_isOpen_7 rfl ?_
  obtain ⟨hs1, h⟩ := h
  refine x_icmp hP 11 33 (v1 = ((-1))) dX4_isOpen_8 rfl rfl hs1 (by decide) rfl (fun hbr => ?_) (fun hbr => ?_)
  · replace h := h.1 hbr
    refine x_iconst hP 34 dX4_isOpen_33 rfl ?_
    exact x_zret hP dX4_isOpen_34 ⟨Nat.le_refl _, Nat.le_refl _⟩ (by decide) h
  · replace h := h.2 hbr
    refine x_aloadn hP 12 0 dX4_isOpen_11 rfl rfl mm0 ?_
    refine x_iloadn hP 13 1 dX4_isOpen_12 rfl rfl mm1 ?_
    refine x_iconst hP 14 dX4_isOpen_13 rfl ?_
    obtain ⟨hs, h⟩ := h
    refine x_idiv hP 15 dX4_isOpen_14 rfl hs (by decide) (by decide) ?_
    obtain ⟨v2, hc, h⟩ := h
    refine x_cv hP 18 [vI (Int.tdiv a 3)] [] dX4_isOpen_15 rfl hg.o (by decide) rfl ml_RX4_70 im_X4_isPoured se_X4_isPoured it_RX4 pp_X4_isPoured bd_X4_isPoured rfl rfl ⟨Nat.le_refl _, Nat.le_refl _⟩ (by simp [pC]) hc ?_
    obtain ⟨hs1, h⟩ := h
    refine x_ifc hP 21 33 (v2 = 0) dX4_isOpen_18 rfl rfl hs1 rfl (fun hbr => ?_) (fun hbr => ?_)
    · replace h := h.1 hbr
      refine x_iconst hP 34 dX4_isOpen_33 rfl ?_
      exact x_zret hP dX4_isOpen_34 ⟨Nat.le_refl _, Nat.le_refl _⟩ (by decide) h
    · replace h := h.2 hbr
      refine x_aloadn hP 22 0 dX4_isOpen_21 rfl rfl mm0 ?_
      refine x_iloadn hP 23 2 dX4_isOpen_22 rfl rfl mm2 ?_
      obtain ⟨v3, hc, h⟩ := h
      refine x_cv hP 26 [vI v1] [] dX4_isOpen_23 rfl hg.o (by decide) rfl ml_RX4_70 im_X4_isPoured se_X4_isPoured it_RX4 pp_X4_isPoured bd_X4_isPoured rfl rfl ⟨Nat.le_refl _, Nat.le_refl _⟩ (by simp [pC]) hc ?_
      obtain ⟨hs1, h⟩ := h
      refine x_ifc hP 29 33 (¬ v3 = 0) dX4_isOpen_26 rfl rfl hs1 rfl (fun hbr => ?_) (fun hbr => ?_)
      · replace h := h.1 hbr
        refine x_iconst hP 34 dX4_isOpen_33 rfl ?_
        exact x_zret hP dX4_isOpen_34 ⟨Nat.le_refl _, Nat.le_refl _⟩ (by decide) h
      · replace h := h.2 hbr
        refine x_iconst hP 30 dX4_isOpen_29 rfl ?_
        refine x_goto hP 34 dX4_isOpen_30 rfl ?_
        exact x_zret hP dX4_isOpen_34 ⟨Nat.le_refl _, Nat.le_refl _⟩ (by decide) h
theorem k_X4_ageOf_0 {d : Nat} {Q : pQ} {P : pP} {g : pG} {σ : pM} (hP : Clo (pCall d) yX4_ageOf cX4_ageOf (some .int) 5 0 0 Q P) (o : Nat) (a : Int) (hg : gWl g o) (h : iR a ∧ ∃ (v1 : Int), Ca d yX4_across [vR (some o), vI a] g σ [vI v1] g σ ∧ ∃ (v2 : Int), Ca d yX4_isCell [vR (some o), vI v1] g σ [vI v2] g σ ∧ iR v2 ∧ (v2 = 0 → Q [vI ((-1))] g σ) ∧ (¬ (v2 = 0) → ∃ (v3 : Int), Ca d yX4_isPoured [vR (some o), vI (Int.tdiv a 3)] g σ [vI v3] g σ ∧ iR v3 ∧ (¬ v3 = 0 → ∃ (v4 : Int), Ca d yX4_isPoured [vR (some o), vI v1] g σ [vI v4] g σ ∧ iR v4 ∧ (v4 = 0 → (0 ≤ (Int.tdiv a 3) ∧ (Int.tdiv a 3) < 9) ∧ Q [vI ((σ o 3) - (σ (o + 3) (Int.toNat (Int.tdiv a 3))))] g σ) ∧ (¬ (v4 = 0) → (0 ≤ v1 ∧ v1 < 9) ∧ (0 ≤ (Int.tdiv a 3) ∧ (Int.tdiv a 3) < 9) ∧ Q [vI ((σ (o + 2) (Int.toNat v1)) - (σ (o + 3) (Int.toNat (Int.tdiv a 3))))] g σ)) ∧ (¬ (¬ v3 = 0) → Q [vI ((-1))] g σ))) : P 0 [(0, vR (some o)), (1, vI a)] [] g σ 0 0 := by
  refine x_iloadn hP 1 1 dX4_ageOf_0 rfl rfl mm1 ?_
  refine x_iconst hP 2 dX4_ageOf_1 rfl ?_
  obtain ⟨hs, h⟩ := h
  refine x_idiv hP 3 dX4_ageOf_2 rfl hs (by decide) (by decide) ?_
  refine x_istoren hP 4 2 [(0, vR (some o)), (1, vI a), (2, vI (Int.tdiv a 3))] dX4_ageOf_3 rfl rfl (by decide) rfl rfl ?_
  refine x_aloadn hP 5 0 dX4_ageOf_4 rfl rfl mm0 ?_
  refine x_iloadn hP 6 1 dX4_ageOf_5 rfl rfl mm1 ?_
  obtain ⟨v1, hc, h⟩ := h
  refine x_cv hP 9 [vI a] [] dX4_ageOf_6 rfl hg.o (by decide) rfl ml_RX4_109 im_X4_across se_X4_across it_RX4 pp_X4_across bd_X4_across rfl rfl ⟨Nat.le_refl _, Nat.le_refl _⟩ (by simp [pC]) hc ?_
  refine x_istoren hP 10 3 [(0, vR (some o)), (1, vI a), (2, vI (Int.tdiv a 3)), (3, vI v1)] dX4_ageOf_9 rfl rfl (by decide) rfl rfl ?_
  refine x_aloadn hP 11 0 dX4_ageOf_10 rfl rfl mm0 ?_
  refine x_iloadn hP 12 3 dX4_ageOf_11 rfl rfl mm3 ?_
  obtain ⟨v2, hc, h⟩ := h
  refine x_cv hP 15 [vI v1] [] dX4_ageOf_12 rfl hg.o (by decide) rfl ml_RX4_87 im_X4_isCell se_X4_isCell it_RX4 pp_X4_isCell bd_X4_isCell rfl rfl ⟨Nat.le_refl _, Nat.le_refl _⟩ (by simp [pC]) hc ?_
  obtain ⟨hs1, h⟩ := h
  refine x_ifc hP 18 26 (v2 = 0) dX4_ageOf_15 rfl rfl hs1 rfl (fun hbr => ?_) (fun hbr => ?_)
  · replace h := h.1 hbr
    refine x_iconst hP 27 dX4_ageOf_26 rfl ?_
    exact x_iret hP dX4_ageOf_27 ⟨Nat.le_refl _, Nat.le_refl _⟩ h
  · replace h := h.2 hbr
    refine x_aloadn hP 19 0 dX4_ageOf_18 rfl rfl mm0 ?_
    refine x_iloadn hP 20 2 dX4_ageOf_19 rfl rfl mm2 ?_
    obtain ⟨v3, hc, h⟩ := h
    refine x_cv hP 23 [vI (Int.tdiv a 3)] [] dX4_ageOf_20 rfl hg.o (by decide) rfl ml_RX4_70 im_X4_isPoured se_X4_isPoured it_RX4 pp_X4_isPoured bd_X4_isPoured rfl rfl ⟨Nat.le_refl _, Nat.le_refl _⟩ (by simp [pC]) hc ?_
    obtain ⟨hs1, h⟩ := h
    refine x_ifc hP 26 28 (¬ v3 = 0) dX4_ageOf_23 rfl rfl hs1 rfl (fun hbr => ?_) (fun hbr => ?_)
    · replace h := h.1 hbr
      refine x_aloadn hP 29 0 dX4_ageOf_28 rfl rfl mm0 ?_
      refine x_iloadn hP 30 3 dX4_ageOf_29 rfl rfl mm3 ?_
      obtain ⟨v4, hc, h⟩ := h
      refine x_cv hP 33 [vI v1] [] dX4_ageOf_30 rfl hg.o (by decide) rfl ml_RX4_70 im_X4_isPoured se_X4_isPoured it_RX4 pp_X4_isPoured bd_X4_isPoured rfl rfl ⟨Nat.le_refl _, Nat.le_refl _⟩ (by simp [pC]) hc ?_
      obtain ⟨hs1, h⟩ := h
      refine x_ifc hP 36 45 (v4 = 0) dX4_ageOf_33 rfl rfl hs1 rfl (fun hbr => ?_) (fun hbr => ?_)
      · replace h := h.1 hbr
        refine x_aloadn hP 46 0 dX4_ageOf_45 rfl rfl mm0 ?_
        refine x_geti hP 49 dX4_ageOf_46 rfl fl_RX4_56 hg.o (by decide) rfl ?_
        refine x_istore hP 51 [(0, vR (some o)), (1, vI a), (2, vI (Int.tdiv a 3)), (3, vI v1), (4, vI (σ o 3))] dX4_ageOf_49 rfl (by decide) rfl rfl ?_
        refine x_iload hP 53 dX4_ageOf_51 rfl mm4 ?_
        refine x_aloadn hP 54 0 dX4_ageOf_53 rfl rfl mm0 ?_
        refine x_getr hP 57 (o + 3) dX4_ageOf_54 rfl fl_RX4_28 hg.o (by decide) rfl hg.r3 ?_
        refine x_iloadn hP 58 2 dX4_ageOf_57 rfl rfl mm2 ?_
        obtain ⟨hs, h⟩ := h
        refine x_iald hP 59 dX4_ageOf_58 rfl hg.a3 (by decide) hs ?_
        refine x_isub hP 60 dX4_ageOf_59 rfl ?_
        exact x_iret hP dX4_ageOf_60 ⟨Nat.le_refl _, Nat.le_refl _⟩ h
      · replace h := h.2 hbr
        refine x_aloadn hP 37 0 dX4_ageOf_36 rfl rfl mm0 ?_
        refine x_getr hP 40 (o + 2) dX4_ageOf_37 rfl fl_RX4_25 hg.o (by decide) rfl hg.r2 ?_
        refine x_iloadn hP 41 3 dX4_ageOf_40 rfl rfl mm3 ?_
        obtain ⟨hs, h⟩ := h
        refine x_iald hP 42 dX4_ageOf_41 rfl hg.a2 (by decide) hs ?_
        refine x_goto hP 49 dX4_ageOf_42 rfl ?_
        refine x_istore hP 51 [(0, vR (some o)), (1, vI a), (2, vI (Int.tdiv a 3)), (3, vI v1), (4, vI (σ (o + 2) (Int.toNat v1)))] dX4_ageOf_49 rfl (by decide) rfl rfl ?_
        refine x_iload hP 53 dX4_ageOf_51 rfl mm4 ?_
        refine x_aloadn hP 54 0 dX4_ageOf_53 rfl rfl mm0 ?_
        refine x_getr hP 57 (o + 3) dX4_ageOf_54 rfl fl_RX4_28 hg.o (by decide) rfl hg.r3 ?_
        refine x_iloadn hP 58 2 dX4_ageOf_57 rfl rfl mm2 ?_
        obtain ⟨hs, h⟩ := h
        refine x_iald hP 59 dX4_ageOf_58 rfl hg.a3 (by decide) hs ?_
        refine x_isub hP 60 dX4_ageOf_59 rfl ?_
        exact x_iret hP dX4_ageOf_60 ⟨Nat.le_refl _, Nat.le_refl _⟩ h
    · replace h := h.2 hbr
      refine x_iconst hP 27 dX4_ageOf_26 rfl ?_
      exact x_iret hP dX4_ageOf_27 ⟨Nat.le_refl _, Nat.le_refl _⟩ h
theorem k_X4_isJoint_0 {d : Nat} {Q : pQ} {P : pP} {g : pG} {σ : pM} (hP : Clo (pCall d) yX4_isJoint cX4_isJoint (some .boolean) 2 0 0 Q P) (o : Nat) (a : Int) (hg : gWl g o) (h : ∃ (v1 : Int), Ca d yX4_ageOf [vR (some o), vI a] g σ [vI v1] g σ ∧ iR v1 ∧ iR (σ o 4) ∧ (v1 ≤ (σ o 4) → Q [vI 0] g σ) ∧ (¬ (v1 ≤ (σ o 4)) → Q [vI 1] g σ)) : P 0 [(0, vR (some o)), (1, vI a)] [] g σ 0 0 := by
  refine x_aloadn hP 1 0 dX4_isJoint_0 rfl rfl mm0 ?_
  refine x_iloadn hP 2 1 dX4_isJoint_1 rfl rfl mm1 ?_
  obtain ⟨v1, hc, h⟩ := h
  refine x_cv hP 5 [vI a] [] dX4_isJoint_2 rfl hg.o (by decide) rfl ml_RX4_112 im_X4_ageOf se_X4_ageOf it_RX4 pp_X4_ageOf bd_X4_ageOf rfl rfl ⟨Nat.le_refl _, Nat.le_refl _⟩ (by simp [pC]) hc ?_
  refine x_aloadn hP 6 0 dX4_isJoint_5 rfl rfl mm0 ?_
  refine x_geti hP 9 dX4_isJoint_6 rfl fl_RX4_9 hg.o (by decide) rfl ?_
  obtain ⟨hs1, hs2, h⟩ := h
  refine x_icmp hP 12 16 (v1 ≤ (σ o 4)) dX4_isJoint_9 rfl rfl hs1 hs2 rfl (fun hbr => ?_) (fun hbr => ?_)
  · replace h := h.1 hbr
    refine x_iconst hP 17 dX4_isJoint_16 rfl ?_
    exact x_zret hP dX4_isJoint_17 ⟨Nat.le_refl _, Nat.le_refl _⟩ (by decide) h
  · replace h := h.2 hbr
    refine x_iconst hP 13 dX4_isJoint_12 rfl ?_
    refine x_goto hP 17 dX4_isJoint_13 rfl ?_
    exact x_zret hP dX4_isJoint_17 ⟨Nat.le_refl _, Nat.le_refl _⟩ (by decide) h
theorem k_X4_timeLeft_0 {d : Nat} {Q : pQ} {P : pP} {g : pG} {σ : pM} (hP : Clo (pCall d) yX4_timeLeft cX4_timeLeft (some .int) 2 0 0 Q P) (o : Nat) (a : Int) (hg : gWl g o) (h : ∃ (v1 : Int), Ca d yX4_isOpen [vR (some o), vI a] g σ [vI v1] g σ ∧ iR v1 ∧ (v1 = 0 → Q [vI ((-1000))] g σ) ∧ (¬ (v1 = 0) → ∃ (v2 : Int), Ca d yX4_isJoint [vR (some o), vI a] g σ [vI v2] g σ ∧ iR v2 ∧ (¬ v2 = 0 → Q [vI ((-1000))] g σ) ∧ (¬ (¬ v2 = 0) → ∃ (v3 : Int), Ca d yX4_ageOf [vR (some o), vI a] g σ [vI v3] g σ ∧ Q [vI ((σ o 4) - v3)] g σ))) : P 0 [(0, vR (some o)), (1, vI a)] [] g σ 0 0 := by
  refine x_aloadn hP 1 0 dX4_timeLeft_0 rfl rfl mm0 ?_
  refine x_iloadn hP 2 1 dX4_timeLeft_1 rfl rfl mm1 ?_
  obtain ⟨v1, hc, h⟩ := h
  refine x_cv hP 5 [vI a] [] dX4_timeLeft_2 rfl hg.o (by decide) rfl ml_RX4_115 im_X4_isOpen se_X4_isOpen it_RX4 pp_X4_isOpen bd_X4_isOpen rfl rfl ⟨Nat.le_refl _, Nat.le_refl _⟩ (by simp [pC]) hc ?_
  obtain ⟨hs1, h⟩ := h
  refine x_ifc hP 8 29 (v1 = 0) dX4_timeLeft_5 rfl rfl hs1 rfl (fun hbr => ?_) (fun hbr => ?_)
  · replace h := h.1 hbr
    refine x_sipush hP 32 dX4_timeLeft_29 rfl (by decide) ?_
    exact x_iret hP dX4_timeLeft_32 ⟨Nat.le_refl _, Nat.le_refl _⟩ h
  · replace h := h.2 hbr
    refine x_aloadn hP 9 0 dX4_timeLeft_8 rfl rfl mm0 ?_
    refine x_iloadn hP 10 1 dX4_timeLeft_9 rfl rfl mm1 ?_
    obtain ⟨v2, hc, h⟩ := h
    refine x_cv hP 13 [vI a] [] dX4_timeLeft_10 rfl hg.o (by decide) rfl ml_RX4_118 im_X4_isJoint se_X4_isJoint it_RX4 pp_X4_isJoint bd_X4_isJoint rfl rfl ⟨Nat.le_refl _, Nat.le_refl _⟩ (by simp [pC]) hc ?_
    obtain ⟨hs1, h⟩ := h
    refine x_ifc hP 16 29 (¬ v2 = 0) dX4_timeLeft_13 rfl rfl hs1 rfl (fun hbr => ?_) (fun hbr => ?_)
    · replace h := h.1 hbr
      refine x_sipush hP 32 dX4_timeLeft_29 rfl (by decide) ?_
      exact x_iret hP dX4_timeLeft_32 ⟨Nat.le_refl _, Nat.le_refl _⟩ h
    · replace h := h.2 hbr
      refine x_aloadn hP 17 0 dX4_timeLeft_16 rfl rfl mm0 ?_
      refine x_geti hP 20 dX4_timeLeft_17 rfl fl_RX4_9 hg.o (by decide) rfl ?_
      refine x_aloadn hP 21 0 dX4_timeLeft_20 rfl rfl mm0 ?_
      refine x_iloadn hP 22 1 dX4_timeLeft_21 rfl rfl mm1 ?_
      obtain ⟨v3, hc, h⟩ := h
      refine x_cv hP 25 [vI a] [vI (σ o 4)] dX4_timeLeft_22 rfl hg.o (by decide) rfl ml_RX4_112 im_X4_ageOf se_X4_ageOf it_RX4 pp_X4_ageOf bd_X4_ageOf rfl rfl ⟨Nat.le_refl _, Nat.le_refl _⟩ (by simp [pC]) hc ?_
      refine x_isub hP 26 dX4_timeLeft_25 rfl ?_
      refine x_goto hP 32 dX4_timeLeft_26 rfl ?_
      exact x_iret hP dX4_timeLeft_32 ⟨Nat.le_refl _, Nat.le_refl _⟩ h
theorem k_X4_harmOf_0 {d : Nat} {Q : pQ} {P : pP} {g : pG} {σ : pM} (hP : Clo (pCall d) yX4_harmOf cX4_harmOf (some .int) 2 0 0 Q P) (o : Nat) (a : Int) (hg : gWl g o) (h : iR a ∧ iR (Int.tmod a 3) ∧ (¬ (Int.tmod a 3) = 0 → Q [vI (σ o 6)] g σ) ∧ (¬ (¬ (Int.tmod a 3) = 0) → Q [vI (σ o 5)] g σ)) : P 0 [(0, vR (some o)), (1, vI a)] [] g σ 0 0 := by
  refine x_iloadn hP 1 1 dX4_harmOf_0 rfl rfl mm1 ?_
  refine x_iconst hP 2 dX4_harmOf_1 rfl ?_
  obtain ⟨hs, h⟩ := h
  refine x_irem hP 3 dX4_harmOf_2 rfl hs (by decide) (by decide) ?_
  obtain ⟨hs1, h⟩ := h
  refine x_ifc hP 6 13 (¬ (Int.tmod a 3) = 0) dX4_harmOf_3 rfl rfl hs1 rfl (fun hbr => ?_) (fun hbr => ?_)
  · replace h := h.1 hbr
    refine x_aloadn hP 14 0 dX4_harmOf_13 rfl rfl mm0 ?_
    refine x_geti hP 17 dX4_harmOf_14 rfl fl_RX4_18 hg.o (by decide) rfl ?_
    exact x_iret hP dX4_harmOf_17 ⟨Nat.le_refl _, Nat.le_refl _⟩ h
  · replace h := h.2 hbr
    refine x_aloadn hP 7 0 dX4_harmOf_6 rfl rfl mm0 ?_
    refine x_geti hP 10 dX4_harmOf_7 rfl fl_RX4_15 hg.o (by decide) rfl ?_
    refine x_goto hP 17 dX4_harmOf_10 rfl ?_
    exact x_iret hP dX4_harmOf_17 ⟨Nat.le_refl _, Nat.le_refl _⟩ h
theorem k_X4_joints_0 {d : Nat} {Q : pQ} {P : pP} {g : pG} {σ : pM} (hP : Clo (pCall d) yX4_joints cX4_joints (some .int) 3 0 0 Q P) (o : Nat) (hg : gWl g o) (h : P 4 [(0, vR (some o)), (1, vI 0), (2, vI 0)] [] g σ 0 0) : P 0 [(0, vR (some o))] [] g σ 0 0 := by
  refine x_iconst hP 1 dX4_joints_0 rfl ?_
  refine x_istoren hP 2 1 [(0, vR (some o)), (1, vI 0)] dX4_joints_1 rfl rfl (by decide) rfl rfl ?_
  refine x_iconst hP 3 dX4_joints_2 rfl ?_
  refine x_istoren hP 4 2 [(0, vR (some o)), (1, vI 0), (2, vI 0)] dX4_joints_3 rfl rfl (by decide) rfl rfl ?_
  exact h
theorem k_X4_joints_4 {d : Nat} {Q : pQ} {P : pP} {g : pG} {σ : pM} (hP : Clo (pCall d) yX4_joints cX4_joints (some .int) 3 0 0 Q P) (o : Nat) (x1 : Int) (x2 : Int) (hg : gWl g o) (h : ∃ (v1 : Int), Ca d yX4_edges [vR (some o)] g σ [vI v1] g σ ∧ iR x2 ∧ iR v1 ∧ (v1 ≤ x2 → Q [vI x1] g σ) ∧ (¬ (v1 ≤ x2) → ∃ (v2 : Int), Ca d yX4_isJoint [vR (some o), vI x2] g σ [vI v2] g σ ∧ iR v2 ∧ (v2 = 0 → P 4 [(0, vR (some o)), (1, vI x1), (2, vI (x2 + 1))] [] g σ 0 0) ∧ (¬ (v2 = 0) → P 4 [(0, vR (some o)), (1, vI (x1 + 1)), (2, vI (x2 + 1))] [] g σ 0 0))) : P 4 [(0, vR (some o)), (1, vI x1), (2, vI x2)] [] g σ 0 0 := by
  refine x_iloadn hP 5 2 dX4_joints_4 rfl rfl mm2 ?_
  refine x_aloadn hP 6 0 dX4_joints_5 rfl rfl mm0 ?_
  obtain ⟨v1, hc, h⟩ := h
  refine x_cv hP 9 [] [vI x2] dX4_joints_6 rfl hg.o (by decide) rfl ml_RX4_121 im_X4_edges se_X4_edges it_RX4 pp_X4_edges bd_X4_edges rfl rfl ⟨Nat.le_refl _, Nat.le_refl _⟩ (by simp [pC]) hc ?_
  obtain ⟨hs1, hs2, h⟩ := h
  refine x_icmp hP 12 29 (v1 ≤ x2) dX4_joints_9 rfl rfl hs1 hs2 rfl (fun hbr => ?_) (fun hbr => ?_)
  · replace h := h.1 hbr
    refine x_iloadn hP 30 1 dX4_joints_29 rfl rfl mm1 ?_
    exact x_iret hP dX4_joints_30 ⟨Nat.le_refl _, Nat.le_refl _⟩ h
  · replace h := h.2 hbr
    refine x_aloadn hP 13 0 dX4_joints_12 rfl rfl mm0 ?_
    refine x_iloadn hP 14 2 dX4_joints_13 rfl rfl mm2 ?_
    obtain ⟨v2, hc, h⟩ := h
    refine x_cv hP 17 [vI x2] [] dX4_joints_14 rfl hg.o (by decide) rfl ml_RX4_118 im_X4_isJoint se_X4_isJoint it_RX4 pp_X4_isJoint bd_X4_isJoint rfl rfl ⟨Nat.le_refl _, Nat.le_refl _⟩ (by simp [pC]) hc ?_
    obtain ⟨hs1, h⟩ := h
    refine x_ifc hP 20 23 (v2 = 0) dX4_joints_17 rfl rfl hs1 rfl (fun hbr => ?_) (fun hbr => ?_)
    · replace h := h.1 hbr
      refine x_iinc hP 26 [(0, vR (some o)), (1, vI x1), (2, vI (x2 + 1))] dX4_joints_23 rfl mm2 (by decide) rfl rfl ?_
      refine x_goto hP 4 dX4_joints_26 rfl ?_
      exact h
    · replace h := h.2 hbr
      refine x_iinc hP 23 [(0, vR (some o)), (1, vI (x1 + 1)), (2, vI x2)] dX4_joints_20 rfl mm1 (by decide) rfl rfl ?_
      refine x_iinc hP 26 [(0, vR (some o)), (1, vI (x1 + 1)), (2, vI (x2 + 1))] dX4_joints_23 rfl mm2 (by decide) rfl rfl ?_
      refine x_goto hP 4 dX4_joints_26 rfl ?_
      exact h
theorem k_X4_harm_0 {d : Nat} {Q : pQ} {P : pP} {g : pG} {σ : pM} (hP : Clo (pCall d) yX4_harm cX4_harm (some .int) 3 0 0 Q P) (o : Nat) (hg : gWl g o) (h : P 4 [(0, vR (some o)), (1, vI 0), (2, vI 0)] [] g σ 0 0) : P 0 [(0, vR (some o))] [] g σ 0 0 := by
  refine x_iconst hP 1 dX4_harm_0 rfl ?_
  refine x_istoren hP 2 1 [(0, vR (some o)), (1, vI 0)] dX4_harm_1 rfl rfl (by decide) rfl rfl ?_
  refine x_iconst hP 3 dX4_harm_2 rfl ?_
  refine x_istoren hP 4 2 [(0, vR (some o)), (1, vI 0), (2, vI 0)] dX4_harm_3 rfl rfl (by decide) rfl rfl ?_
  exact h
theorem k_X4_harm_4 {d : Nat} {Q : pQ} {P : pP} {g : pG} {σ : pM} (hP : Clo (pCall d) yX4_harm cX4_harm (some .int) 3 0 0 Q P) (o : Nat) (x1 : Int) (x2 : Int) (hg : gWl g o) (h : ∃ (v1 : Int), Ca d yX4_edges [vR (some o)] g σ [vI v1] g σ ∧ iR x2 ∧ iR v1 ∧ (v1 ≤ x2 → Q [vI x1] g σ) ∧ (¬ (v1 ≤ x2) → ∃ (v2 : Int), Ca d yX4_isJoint [vR (some o), vI x2] g σ [vI v2] g σ ∧ iR v2 ∧ (v2 = 0 → P 4 [(0, vR (some o)), (1, vI x1), (2, vI (x2 + 1))] [] g σ 0 0) ∧ (¬ (v2 = 0) → ∃ (v3 : Int), Ca d yX4_harmOf [vR (some o), vI x2] g σ [vI v3] g σ ∧ P 4 [(0, vR (some o)), (1, vI (x1 + v3)), (2, vI (x2 + 1))] [] g σ 0 0))) : P 4 [(0, vR (some o)), (1, vI x1), (2, vI x2)] [] g σ 0 0 := by
  refine x_iloadn hP 5 2 dX4_harm_4 rfl rfl mm2 ?_
  refine x_aloadn hP 6 0 dX4_harm_5 rfl rfl mm0 ?_
  obtain ⟨v1, hc, h⟩ := h
  refine x_cv hP 9 [] [vI x2] dX4_harm_6 rfl hg.o (by decide) rfl ml_RX4_121 im_X4_edges se_X4_edges it_RX4 pp_X4_edges bd_X4_edges rfl rfl ⟨Nat.le_refl _, Nat.le_refl _⟩ (by simp [pC]) hc ?_
  obtain ⟨hs1, hs2, h⟩ := h
  refine x_icmp hP 12 34 (v1 ≤ x2) dX4_harm_9 rfl rfl hs1 hs2 rfl (fun hbr => ?_) (fun hbr => ?_)
  · replace h := h.1 hbr
    refine x_iloadn hP 35 1 dX4_harm_34 rfl rfl mm1 ?_
    exact x_iret hP dX4_harm_35 ⟨Nat.le_refl _, Nat.le_refl _⟩ h
  · replace h := h.2 hbr
    refine x_aloadn hP 13 0 dX4_harm_12 rfl rfl mm0 ?_
    refine x_iloadn hP 14 2 dX4_harm_13 rfl rfl mm2 ?_
    obtain ⟨v2, hc, h⟩ := h
    refine x_cv hP 17 [vI x2] [] dX4_harm_14 rfl hg.o (by decide) rfl ml_RX4_118 im_X4_isJoint se_X4_isJoint it_RX4 pp_X4_isJoint bd_X4_isJoint rfl rfl ⟨Nat.le_refl _, Nat.le_refl _⟩ (by simp [pC]) hc ?_
    obtain ⟨hs1, h⟩ := h
    refine x_ifc hP 20 28 (v2 = 0) dX4_harm_17 rfl rfl hs1 rfl (fun hbr => ?_) (fun hbr => ?_)
    · replace h := h.1 hbr
      refine x_iinc hP 31 [(0, vR (some o)), (1, vI x1), (2, vI (x2 + 1))] dX4_harm_28 rfl mm2 (by decide) rfl rfl ?_
      refine x_goto hP 4 dX4_harm_31 rfl ?_
      exact h
    · replace h := h.2 hbr
      refine x_iloadn hP 21 1 dX4_harm_20 rfl rfl mm1 ?_
      refine x_aloadn hP 22 0 dX4_harm_21 rfl rfl mm0 ?_
      refine x_iloadn hP 23 2 dX4_harm_22 rfl rfl mm2 ?_
      obtain ⟨v3, hc, h⟩ := h
      refine x_cv hP 26 [vI x2] [vI x1] dX4_harm_23 rfl hg.o (by decide) rfl ml_RX4_124 im_X4_harmOf se_X4_harmOf it_RX4 pp_X4_harmOf bd_X4_harmOf rfl rfl ⟨Nat.le_refl _, Nat.le_refl _⟩ (by simp [pC]) hc ?_
      refine x_iadd hP 27 dX4_harm_26 rfl ?_
      refine x_istoren hP 28 1 [(0, vR (some o)), (1, vI (x1 + v3)), (2, vI x2)] dX4_harm_27 rfl rfl (by decide) rfl rfl ?_
      refine x_iinc hP 31 [(0, vR (some o)), (1, vI (x1 + v3)), (2, vI (x2 + 1))] dX4_harm_28 rfl mm2 (by decide) rfl rfl ?_
      refine x_goto hP 4 dX4_harm_31 rfl ?_
      exact h
theorem k_X4_stoppedHarm_0 {d : Nat} {Q : pQ} {P : pP} {g : pG} {σ : pM} (hP : Clo (pCall d) yX4_stoppedHarm cX4_stoppedHarm (some .int) 3 0 0 Q P) (o : Nat) (hg : gWl g o) (h : P 4 [(0, vR (some o)), (1, vI 0), (2, vI 0)] [] g σ 0 0) : P 0 [(0, vR (some o))] [] g σ 0 0 := by
  refine x_iconst hP 1 dX4_stoppedHarm_0 rfl ?_
  refine x_istoren hP 2 1 [(0, vR (some o)), (1, vI 0)] dX4_stoppedHarm_1 rfl rfl (by decide) rfl rfl ?_
  refine x_iconst hP 3 dX4_stoppedHarm_2 rfl ?_
  refine x_istoren hP 4 2 [(0, vR (some o)), (1, vI 0), (2, vI 0)] dX4_stoppedHarm_3 rfl rfl (by decide) rfl rfl ?_
  exact h
theorem k_X4_stoppedHarm_4 {d : Nat} {Q : pQ} {P : pP} {g : pG} {σ : pM} (hP : Clo (pCall d) yX4_stoppedHarm cX4_stoppedHarm (some .int) 3 0 0 Q P) (o : Nat) (x1 : Int) (x2 : Int) (hg : gWl g o) (h : ∃ (v1 : Int), Ca d yX4_edges [vR (some o)] g σ [vI v1] g σ ∧ iR x2 ∧ iR v1 ∧ (v1 ≤ x2 → Q [vI x1] g σ) ∧ (¬ (v1 ≤ x2) → ∃ (v2 : Int), Ca d yX4_isOpen [vR (some o), vI x2] g σ [vI v2] g σ ∧ iR v2 ∧ (¬ v2 = 0 → ∃ (v3 : Int), Ca d yX4_harmOf [vR (some o), vI x2] g σ [vI v3] g σ ∧ P 4 [(0, vR (some o)), (1, vI (x1 + v3)), (2, vI (x2 + 1))] [] g σ 0 0) ∧ (¬ (¬ v2 = 0) → ∃ (v4 : Int), Ca d yX4_isJoint [vR (some o), vI x2] g σ [vI v4] g σ ∧ iR v4 ∧ (v4 = 0 → P 4 [(0, vR (some o)), (1, vI x1), (2, vI (x2 + 1))] [] g σ 0 0) ∧ (¬ (v4 = 0) → ∃ (v5 : Int), Ca d yX4_harmOf [vR (some o), vI x2] g σ [vI v5] g σ ∧ P 4 [(0, vR (some o)), (1, vI (x1 + v5)), (2, vI (x2 + 1))] [] g σ 0 0)))) : P 4 [(0, vR (some o)), (1, vI x1), (2, vI x2)] [] g σ 0 0 := by
  refine x_iloadn hP 5 2 dX4_stoppedHarm_4 rfl rfl mm2 ?_
  refine x_aloadn hP 6 0 dX4_stoppedHarm_5 rfl rfl mm0 ?_
  obtain ⟨v1, hc, h⟩ := h
  refine x_cv hP 9 [] [vI x2] dX4_stoppedHarm_6 rfl hg.o (by decide) rfl ml_RX4_121 im_X4_edges se_X4_edges it_RX4 pp_X4_edges bd_X4_edges rfl rfl ⟨Nat.le_refl _, Nat.le_refl _⟩ (by simp [pC]) hc ?_
  obtain ⟨hs1, hs2, h⟩ := h
  refine x_icmp hP 12 42 (v1 ≤ x2) dX4_stoppedHarm_9 rfl rfl hs1 hs2 rfl (fun hbr => ?_) (fun hbr => ?_)
  · replace h := h.1 hbr
    refine x_iloadn hP 43 1 dX4_stoppedHarm_42 rfl rfl mm1 ?_
    exact x_iret hP dX4_stoppedHarm_43 ⟨Nat.le_refl _, Nat.le_refl _⟩ h
  · replace h := h.2 hbr
    refine x_aloadn hP 13 0 dX4_stoppedHarm_12 rfl rfl mm0 ?_
    refine x_iloadn hP 14 2 dX4_stoppedHarm_13 rfl rfl mm2 ?_
    obtain ⟨v2, hc, h⟩ := h
    refine x_cv hP 17 [vI x2] [] dX4_stoppedHarm_14 rfl hg.o (by decide) rfl ml_RX4_115 im_X4_isOpen se_X4_isOpen it_RX4 pp_X4_isOpen bd_X4_isOpen rfl rfl ⟨Nat.le_refl _, Nat.le_refl _⟩ (by simp [pC]) hc ?_
    obtain ⟨hs1, h⟩ := h
    refine x_ifc hP 20 28 (¬ v2 = 0) dX4_stoppedHarm_17 rfl rfl hs1 rfl (fun hbr => ?_) (fun hbr => ?_)
    · replace h := h.1 hbr
      refine x_iloadn hP 29 1 dX4_stoppedHarm_28 rfl rfl mm1 ?_
      refine x_aloadn hP 30 0 dX4_stoppedHarm_29 rfl rfl mm0 ?_
      refine x_iloadn hP 31 2 dX4_stoppedHarm_30 rfl rfl mm2 ?_
      obtain ⟨v3, hc, h⟩ := h
      refine x_cv hP 34 [vI x2] [vI x1] dX4_stoppedHarm_31 rfl hg.o (by decide) rfl ml_RX4_124 im_X4_harmOf se_X4_harmOf it_RX4 pp_X4_harmOf bd_X4_harmOf rfl rfl ⟨Nat.le_refl _, Nat.le_refl _⟩ (by simp [pC]) hc ?_
      refine x_iadd hP 35 dX4_stoppedHarm_34 rfl ?_
      refine x_istoren hP 36 1 [(0, vR (some o)), (1, vI (x1 + v3)), (2, vI x2)] dX4_stoppedHarm_35 rfl rfl (by decide) rfl rfl ?_
      refine x_iinc hP 39 [(0, vR (some o)), (1, vI (x1 + v3)), (2, vI (x2 + 1))] dX4_stoppedHarm_36 rfl mm2 (by decide) rfl rfl ?_
      refine x_goto hP 4 dX4_stoppedHarm_39 rfl ?_
      exact h
    · replace h := h.2 hbr
      refine x_aloadn hP 21 0 dX4_stoppedHarm_20 rfl rfl mm0 ?_
      refine x_iloadn hP 22 2 dX4_stoppedHarm_21 rfl rfl mm2 ?_
      obtain ⟨v4, hc, h⟩ := h
      refine x_cv hP 25 [vI x2] [] dX4_stoppedHarm_22 rfl hg.o (by decide) rfl ml_RX4_118 im_X4_isJoint se_X4_isJoint it_RX4 pp_X4_isJoint bd_X4_isJoint rfl rfl ⟨Nat.le_refl _, Nat.le_refl _⟩ (by simp [pC]) hc ?_
      obtain ⟨hs1, h⟩ := h
      refine x_ifc hP 28 36 (v4 = 0) dX4_stoppedHarm_25 rfl rfl hs1 rfl (fun hbr => ?_) (fun hbr => ?_)
      · replace h := h.1 hbr
        refine x_iinc hP 39 [(0, vR (some o)), (1, vI x1), (2, vI (x2 + 1))] dX4_stoppedHarm_36 rfl mm2 (by decide) rfl rfl ?_
        refine x_goto hP 4 dX4_stoppedHarm_39 rfl ?_
        exact h
      · replace h := h.2 hbr
        refine x_iloadn hP 29 1 dX4_stoppedHarm_28 rfl rfl mm1 ?_
        refine x_aloadn hP 30 0 dX4_stoppedHarm_29 rfl rfl mm0 ?_
        refine x_iloadn hP 31 2 dX4_stoppedHarm_30 rfl rfl mm2 ?_
        obtain ⟨v5, hc, h⟩ := h
        refine x_cv hP 34 [vI x2] [vI x1] dX4_stoppedHarm_31 rfl hg.o (by decide) rfl ml_RX4_124 im_X4_harmOf se_X4_harmOf it_RX4 pp_X4_harmOf bd_X4_harmOf rfl rfl ⟨Nat.le_refl _, Nat.le_refl _⟩ (by simp [pC]) hc ?_
        refine x_iadd hP 35 dX4_stoppedHarm_34 rfl ?_
        refine x_istoren hP 36 1 [(0, vR (some o)), (1, vI (x1 + v5)), (2, vI x2)] dX4_stoppedHarm_35 rfl rfl (by decide) rfl rfl ?_
        refine x_iinc hP 39 [(0, vR (some o)), (1, vI (x1 + v5)), (2, vI (x2 + 1))] dX4_stoppedHarm_36 rfl mm2 (by decide) rfl rfl ?_
        refine x_goto hP 4 dX4_stoppedHarm_39 rfl ?_
        exact h
theorem k_X4_firstToSet_0 {d : Nat} {Q : pQ} {P : pP} {g : pG} {σ : pM} (hP : Clo (pCall d) yX4_firstToSet cX4_firstToSet (some .int) 5 0 0 Q P) (o : Nat) (hg : gWl g o) (h : P 7 [(0, vR (some o)), (1, vI ((-1))), (2, vI 1000000000), (3, vI 0)] [] g σ 0 0) : P 0 [(0, vR (some o))] [] g σ 0 0 := by
  refine x_iconst hP 1 dX4_firstToSet_0 rfl ?_
  refine x_istoren hP 2 1 [(0, vR (some o)), (1, vI ((-1)))] dX4_firstToSet_1 rfl rfl (by decide) rfl rfl ?_
  refine x_ldc hP 4 dX4_firstToSet_2 rfl kc_RX4_127 ?_
  refine x_istoren hP 5 2 [(0, vR (some o)), (1, vI ((-1))), (2, vI 1000000000)] dX4_firstToSet_4 rfl rfl (by decide) rfl rfl ?_
  refine x_iconst hP 6 dX4_firstToSet_5 rfl ?_
  refine x_istoren hP 7 3 [(0, vR (some o)), (1, vI ((-1))), (2, vI 1000000000), (3, vI 0)] dX4_firstToSet_6 rfl rfl (by decide) rfl rfl ?_
  exact h
theorem k_X4_firstToSet_7 {d : Nat} {Q : pQ} {P : pP} {g : pG} {σ : pM} (hP : Clo (pCall d) yX4_firstToSet cX4_firstToSet (some .int) 5 0 0 Q P) (o : Nat) (x1 : Int) (x2 : Int) (x3 : Int) (hg : gWl g o) (h : ∃ (v1 : Int), Ca d yX4_edges [vR (some o)] g σ [vI v1] g σ ∧ iR x3 ∧ iR v1 ∧ (v1 ≤ x3 → Q [vI x1] g σ) ∧ (¬ (v1 ≤ x3) → ∃ (v2 : Int), Ca d yX4_timeLeft [vR (some o), vI x3] g σ [vI v2] g σ ∧ iR v2 ∧ (v2 = ((-1000)) → P 7 [(0, vR (some o)), (1, vI x1), (2, vI x2), (3, vI (x3 + 1))] [] g σ 0 0) ∧ (¬ (v2 = ((-1000))) → iR v2 ∧ iR x2 ∧ (x2 ≤ v2 → P 7 [(0, vR (some o)), (1, vI x1), (2, vI x2), (3, vI (x3 + 1))] [] g σ 0 0) ∧ (¬ (x2 ≤ v2) → P 7 [(0, vR (some o)), (1, vI x3), (2, vI v2), (3, vI (x3 + 1))] [] g σ 0 0)))) : P 7 [(0, vR (some o)), (1, vI x1), (2, vI x2), (3, vI x3)] [] g σ 0 0 := by
  refine x_iloadn hP 8 3 dX4_firstToSet_7 rfl rfl mm3 ?_
  refine x_aloadn hP 9 0 dX4_firstToSet_8 rfl rfl mm0 ?_
  obtain ⟨v1, hc, h⟩ := h
  refine x_cv hP 12 [] [vI x3] dX4_firstToSet_9 rfl hg.o (by decide) rfl ml_RX4_121 im_X4_edges se_X4_edges it_RX4 pp_X4_edges bd_X4_edges rfl rfl ⟨Nat.le_refl _, Nat.le_refl _⟩ (by simp [pC]) hc ?_
  obtain ⟨hs1, hs2, h⟩ := h
  refine x_icmp hP 15 47 (v1 ≤ x3) dX4_firstToSet_12 rfl rfl hs1 hs2 rfl (fun hbr => ?_) (fun hbr => ?_)
  · replace h := h.1 hbr
    refine x_iloadn hP 48 1 dX4_firstToSet_47 rfl rfl mm1 ?_
    exact x_iret hP dX4_firstToSet_48 ⟨Nat.le_refl _, Nat.le_refl _⟩ h
  · replace h := h.2 hbr
    refine x_aloadn hP 16 0 dX4_firstToSet_15 rfl rfl mm0 ?_
    refine x_iloadn hP 17 3 dX4_firstToSet_16 rfl rfl mm3 ?_
    obtain ⟨v2, hc, h⟩ := h
    refine x_cv hP 20 [vI x3] [] dX4_firstToSet_17 rfl hg.o (by decide) rfl ml_RX4_128 im_X4_timeLeft se_X4_timeLeft it_RX4 pp_X4_timeLeft bd_X4_timeLeft rfl rfl ⟨Nat.le_refl _, Nat.le_refl _⟩ (by simp [pC]) hc ?_
    refine x_istore hP 22 [(0, vR (some o)), (1, vI x1), (2, vI x2), (3, vI x3), (4, vI v2)] dX4_firstToSet_20 rfl (by decide) rfl rfl ?_
    refine x_iload hP 24 dX4_firstToSet_22 rfl mm4 ?_
    refine x_sipush hP 27 dX4_firstToSet_24 rfl (by decide) ?_
    obtain ⟨hs1, h⟩ := h
    refine x_icmp hP 30 41 (v2 = ((-1000))) dX4_firstToSet_27 rfl rfl hs1 (by decide) rfl (fun hbr => ?_) (fun hbr => ?_)
    · replace h := h.1 hbr
      refine x_iinc hP 44 [(0, vR (some o)), (1, vI x1), (2, vI x2), (3, vI (x3 + 1)), (4, vI v2)] dX4_firstToSet_41 rfl mm3 (by decide) rfl rfl ?_
      refine x_goto hP 7 dX4_firstToSet_44 rfl ?_
      exact x_sub hP [0, 1, 2, 3] rfl h
    · replace h := h.2 hbr
      refine x_iload hP 32 dX4_firstToSet_30 rfl mm4 ?_
      refine x_iloadn hP 33 2 dX4_firstToSet_32 rfl rfl mm2 ?_
      obtain ⟨hs1, hs2, h⟩ := h
      refine x_icmp hP 36 41 (x2 ≤ v2) dX4_firstToSet_33 rfl rfl hs1 hs2 rfl (fun hbr => ?_) (fun hbr => ?_)
      · replace h := h.1 hbr
        refine x_iinc hP 44 [(0, vR (some o)), (1, vI x1), (2, vI x2), (3, vI (x3 + 1)), (4, vI v2)] dX4_firstToSet_41 rfl mm3 (by decide) rfl rfl ?_
        refine x_goto hP 7 dX4_firstToSet_44 rfl ?_
        exact x_sub hP [0, 1, 2, 3] rfl h
      · replace h := h.2 hbr
        refine x_iload hP 38 dX4_firstToSet_36 rfl mm4 ?_
        refine x_istoren hP 39 2 [(0, vR (some o)), (1, vI x1), (2, vI v2), (3, vI x3), (4, vI v2)] dX4_firstToSet_38 rfl rfl (by decide) rfl rfl ?_
        refine x_iloadn hP 40 3 dX4_firstToSet_39 rfl rfl mm3 ?_
        refine x_istoren hP 41 1 [(0, vR (some o)), (1, vI x3), (2, vI v2), (3, vI x3), (4, vI v2)] dX4_firstToSet_40 rfl rfl (by decide) rfl rfl ?_
        refine x_iinc hP 44 [(0, vR (some o)), (1, vI x3), (2, vI v2), (3, vI (x3 + 1)), (4, vI v2)] dX4_firstToSet_41 rfl mm3 (by decide) rfl rfl ?_
        refine x_goto hP 7 dX4_firstToSet_44 rfl ?_
        exact x_sub hP [0, 1, 2, 3] rfl h
