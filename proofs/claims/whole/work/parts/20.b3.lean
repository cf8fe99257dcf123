/-! Walks, by program (wip/whole/gen.py) -/
theorem k_X3_leastHarmIs_0 {d : Nat} {Q : pQ} {P : pP} {g : pG} {σ : pM} (hP : Clo (pCall d) yX3_leastHarmIs cX3_leastHarmIs (some .boolean) 3 0 0 Q P) (o : Nat) (a : Nat) (b : Int) (hg : gPl g o) (ha : gWl g a) (h : ∃ (s1 : pM), Ca d yX3_search [vR (some o), vR (some a), vI b, vI 1] g σ [] g s1 ∧ iR (s1 o 0) ∧ ((s1 o 0) = 0 → Q [vI 0] g s1) ∧ (¬ ((s1 o 0) = 0) → iR (s1 o 2) ∧ iR b ∧ (¬ (s1 o 2) = b → Q [vI 0] g s1) ∧ (¬ (¬ (s1 o 2) = b) → Q [vI 1] g s1))) : P 0 [(0, vR (some o)), (1, vR (some a)), (2, vI b)] [] g σ 0 0 := by
  refine x_aloadn hP 1 0 dX3_leastHarmIs_0 rfl rfl mm0 ?_
  refine x_aloadn hP 2 1 dX3_leastHarmIs_1 rfl rfl mm1 ?_
  refine x_iloadn hP 3 2 dX3_leastHarmIs_2 rfl rfl mm2 ?_
  refine x_iconst hP 4 dX3_leastHarmIs_3 rfl ?_
  obtain ⟨s1, hc, h⟩ := h
  refine x_cv hP 7 [vR (some a), vI b, vI 1] [] dX3_leastHarmIs_4 rfl hg.o (by decide) rfl ml_RX3_27 im_X3_search se_X3_search it_RX3 pp_X3_search bd_X3_search rfl rfl ⟨Nat.le_refl _, Nat.le_refl _⟩ (by simp [pC]) hc ?_
  refine x_aloadn hP 8 0 dX3_leastHarmIs_7 rfl rfl mm0 ?_
  refine x_geti hP 11 dX3_leastHarmIs_8 rfl fl_RX3_31 hg.o (by decide) rfl ?_
  obtain ⟨hs1, h⟩ := h
  refine x_ifc hP 14 26 ((s1 o 0) = 0) dX3_leastHarmIs_11 rfl rfl hs1 rfl (fun hbr => ?_) (fun hbr => ?_)
  · replace h := h.1 hbr
    refine x_iconst hP 27 dX3_leastHarmIs_26 rfl ?_
    exact x_zret hP dX3_leastHarmIs_27 ⟨Nat.le_refl _, Nat.le_refl _⟩ (by decide) h
  · replace h := h.2 hbr
    refine x_aloadn hP 15 0 dX3_leastHarmIs_14 rfl rfl mm0 ?_
    refine x_geti hP 18 dX3_leastHarmIs_15 rfl fl_RX3_35 hg.o (by decide) rfl ?_
    refine x_iloadn hP 19 2 dX3_leastHarmIs_18 rfl rfl mm2 ?_
    obtain ⟨hs1, hs2, h⟩ := h
    refine x_icmp hP 22 26 (¬ (s1 o 2) = b) dX3_leastHarmIs_19 rfl rfl hs1 hs2 rfl (fun hbr => ?_) (fun hbr => ?_)
    · replace h := h.1 hbr
      refine x_iconst hP 27 dX3_leastHarmIs_26 rfl ?_
      exact x_zret hP dX3_leastHarmIs_27 ⟨Nat.le_refl _, Nat.le_refl _⟩ (by decide) h
    · replace h := h.2 hbr
      refine x_iconst hP 23 dX3_leastHarmIs_22 rfl ?_
      refine x_goto hP 27 dX3_leastHarmIs_23 rfl ?_
      exact x_zret hP dX3_leastHarmIs_27 ⟨Nat.le_refl _, Nat.le_refl _⟩ (by decide) h
theorem k_X3_leastHarm_0 {d : Nat} {Q : pQ} {P : pP} {g : pG} {σ : pM} (hP : Clo (pCall d) yX3_leastHarm cX3_leastHarm (some .int) 1 0 0 Q P) (o : Nat) (hg : gPl g o) (h : iR (σ o 0) ∧ ((σ o 0) = 0 → Q [vI ((-1))] g σ) ∧ (¬ ((σ o 0) = 0) → Q [vI (σ o 2)] g σ)) : P 0 [(0, vR (some o))] [] g σ 0 0 := by
  refine x_aloadn hP 1 0 dX3_leastHarm_0 rfl rfl mm0 ?_
  refine x_geti hP 4 dX3_leastHarm_1 rfl fl_RX3_31 hg.o (by decide) rfl ?_
  obtain ⟨hs1, h⟩ := h
  refine x_ifc hP 7 14 ((σ o 0) = 0) dX3_leastHarm_4 rfl rfl hs1 rfl (fun hbr => ?_) (fun hbr => ?_)
  · replace h := h.1 hbr
    refine x_iconst hP 15 dX3_leastHarm_14 rfl ?_
    exact x_iret hP dX3_leastHarm_15 ⟨Nat.le_refl _, Nat.le_refl _⟩ h
  · replace h := h.2 hbr
    refine x_aloadn hP 8 0 dX3_leastHarm_7 rfl rfl mm0 ?_
    refine x_geti hP 11 dX3_leastHarm_8 rfl fl_RX3_35 hg.o (by decide) rfl ?_
    refine x_goto hP 15 dX3_leastHarm_11 rfl ?_
    exact x_iret hP dX3_leastHarm_15 ⟨Nat.le_refl _, Nat.le_refl _⟩ h
theorem k_X3_earliestEnd_0 {d : Nat} {Q : pQ} {P : pP} {g : pG} {σ : pM} (hP : Clo (pCall d) yX3_earliestEnd cX3_earliestEnd (some .int) 1 0 0 Q P) (o : Nat) (hg : gPl g o) (h : iR (σ o 0) ∧ ((σ o 0) = 0 → Q [vI ((-1))] g σ) ∧ (¬ ((σ o 0) = 0) → Q [vI (σ o 3)] g σ)) : P 0 [(0, vR (some o))] [] g σ 0 0 := by
  refine x_aloadn hP 1 0 dX3_earliestEnd_0 rfl rfl mm0 ?_
  refine x_geti hP 4 dX3_earliestEnd_1 rfl fl_RX3_31 hg.o (by decide) rfl ?_
  obtain ⟨hs1, h⟩ := h
  refine x_ifc hP 7 14 ((σ o 0) = 0) dX3_earliestEnd_4 rfl rfl hs1 rfl (fun hbr => ?_) (fun hbr => ?_)
  · replace h := h.1 hbr
    refine x_iconst hP 15 dX3_earliestEnd_14 rfl ?_
    exact x_iret hP dX3_earliestEnd_15 ⟨Nat.le_refl _, Nat.le_refl _⟩ h
  · replace h := h.2 hbr
    refine x_aloadn hP 8 0 dX3_earliestEnd_7 rfl rfl mm0 ?_
    refine x_geti hP 11 dX3_earliestEnd_8 rfl fl_RX3_39 hg.o (by decide) rfl ?_
    refine x_goto hP 15 dX3_earliestEnd_11 rfl ?_
    exact x_iret hP dX3_earliestEnd_15 ⟨Nat.le_refl _, Nat.le_refl _⟩ h
theorem k_X3_cellAt_0 {d : Nat} {Q : pQ} {P : pP} {g : pG} {σ : pM} (hP : Clo (pCall d) yX3_cellAt cX3_cellAt (some .int) 2 0 0 Q P) (o : Nat) (a : Int) (hg : gPl g o) (h : iR (σ o 0) ∧ ((σ o 0) = 0 → Q [vI ((-1))] g σ) ∧ (¬ ((σ o 0) = 0) → iR a ∧ (a < 0 → Q [vI ((-1))] g σ) ∧ (¬ (a < 0) → iR a ∧ iR (σ o 1) ∧ ((σ o 1) ≤ a → Q [vI ((-1))] g σ) ∧ (¬ ((σ o 1) ≤ a) → iR a ∧ (9 ≤ a → Q [vI ((-1))] g σ) ∧ (¬ (9 ≤ a) → (0 ≤ a ∧ a < 9) ∧ Q [vI (σ (o + 4) (Int.toNat a))] g σ))))) : P 0 [(0, vR (some o)), (1, vI a)] [] g σ 0 0 := by
  refine x_aloadn hP 1 0 dX3_cellAt_0 rfl rfl mm0 ?_
  refine x_geti hP 4 dX3_cellAt_1 rfl fl_RX3_31 hg.o (by decide) rfl ?_
  obtain ⟨hs1, h⟩ := h
  refine x_ifc hP 7 37 ((σ o 0) = 0) dX3_cellAt_4 rfl rfl hs1 rfl (fun hbr => ?_) (fun hbr => ?_)
  · replace h := h.1 hbr
    refine x_iconst hP 38 dX3_cellAt_37 rfl ?_
    exact x_iret hP dX3_cellAt_38 ⟨Nat.le_refl _, Nat.le_refl _⟩ h
  · replace h := h.2 hbr
    refine x_iloadn hP 8 1 dX3_cellAt_7 rfl rfl mm1 ?_
    obtain ⟨hs1, h⟩ := h
    refine x_ifc hP 11 37 (a < 0) dX3_cellAt_8 rfl rfl hs1 rfl (fun hbr => ?_) (fun hbr => ?_)
    · replace h := h.1 hbr
      refine x_iconst hP 38 dX3_cellAt_37 rfl ?_
      exact x_iret hP dX3_cellAt_38 ⟨Nat.le_refl _, Nat.le_refl _⟩ h
    · replace h := h.2 hbr
      refine x_iloadn hP 12 1 dX3_cellAt_11 rfl rfl mm1 ?_
      refine x_aloadn hP 13 0 dX3_cellAt_12 rfl rfl mm0 ?_
      refine x_geti hP 16 dX3_cellAt_13 rfl fl_RX3_42 hg.o (by decide) rfl ?_
      obtain ⟨hs1, hs2, h⟩ := h
      refine x_icmp hP 19 37 ((σ o 1) ≤ a) dX3_cellAt_16 rfl rfl hs1 hs2 rfl (fun hbr => ?_) (fun hbr => ?_)
      · replace h := h.1 hbr
        refine x_iconst hP 38 dX3_cellAt_37 rfl ?_
        exact x_iret hP dX3_cellAt_38 ⟨Nat.le_refl _, Nat.le_refl _⟩ h
      · replace h := h.2 hbr
        refine x_iloadn hP 20 1 dX3_cellAt_19 rfl rfl mm1 ?_
        refine x_aloadn hP 21 0 dX3_cellAt_20 rfl rfl mm0 ?_
        refine x_getr hP 24 (o + 4) dX3_cellAt_21 rfl fl_RX3_21 hg.o (by decide) rfl hg.r4 ?_
        refine x_alen hP 25 dX3_cellAt_24 rfl hg.a4 (by simp [pArr]) ?_
        obtain ⟨hs1, h⟩ := h
        refine x_icmp hP 28 37 (9 ≤ a) dX3_cellAt_25 rfl rfl hs1 (by decide) rfl (fun hbr => ?_) (fun hbr => ?_)
        · replace h := h.1 hbr
          refine x_iconst hP 38 dX3_cellAt_37 rfl ?_
          exact x_iret hP dX3_cellAt_38 ⟨Nat.le_refl _, Nat.le_refl _⟩ h
        · replace h := h.2 hbr
          refine x_aloadn hP 29 0 dX3_cellAt_28 rfl rfl mm0 ?_
          refine x_getr hP 32 (o + 4) dX3_cellAt_29 rfl fl_RX3_21 hg.o (by decide) rfl hg.r4 ?_
          refine x_iloadn hP 33 1 dX3_cellAt_32 rfl rfl mm1 ?_
          obtain ⟨hs, h⟩ := h
          refine x_iald hP 34 dX3_cellAt_33 rfl hg.a4 (by decide) hs ?_
          refine x_goto hP 38 dX3_cellAt_34 rfl ?_
          exact x_iret hP dX3_cellAt_38 ⟨Nat.le_refl _, Nat.le_refl _⟩ h
theorem k_X3_search_0 {d : Nat} {Q : pQ} {P : pP} {g : pG} {σ : pM} (hP : Clo (pCall d) yX3_search cX3_search none 4 0 0 Q P) (o : Nat) (a : Nat) (b : Int) (c : Int) (hg : gPl g o) (ha : gWl g a) (h : ∃ (s1 : pM), Ca d yX3_readWall [vR (some o), vR (some a)] g σ [] g s1 ∧ ∃ (s2 : pM), Ca d yX3_readCells [vR (some o), vR (some a)] g s1 [] g s2 ∧ ∃ (s3 : pM), Ca d yX3_readArrivals [vR (some o), vR (some a)] g s2 [] g s3 ∧ (c = 0 ∨ c = 1) ∧ iR ((up2 (up2 (up2 (up2 s3 o 0 0) o 2 b) o 3 1000000000) o 12 c) o 1) ∧ (((up2 (up2 (up2 (up2 s3 o 0 0) o 2 b) o 3 1000000000) o 12 c) o 1) = 0 → ∃ (v4 : Int), Ca d yX3_harmCovered [vR (some o)] g (up2 (up2 (up2 (up2 s3 o 0 0) o 2 b) o 3 1000000000) o 12 c) [vI v4] g (up2 (up2 (up2 (up2 s3 o 0 0) o 2 b) o 3 1000000000) o 12 c) ∧ ∃ (v5 : Int), Ca d yX4_usedLoads [vR (some a)] g (up2 (up2 (up2 (up2 s3 o 0 0) o 2 b) o 3 1000000000) o 12 c) [vI v5] g (up2 (up2 (up2 (up2 s3 o 0 0) o 2 b) o 3 1000000000) o 12 c) ∧ ∃ (s6 : pM), Ca d yX3_extend [vR (some o), vI 0, vI ((up2 (up2 (up2 (up2 s3 o 0 0) o 2 b) o 3 1000000000) o 12 c) a 3), vI v4, vI v5] g (up2 (up2 (up2 (up2 s3 o 0 0) o 2 b) o 3 1000000000) o 12 c) [] g s6 ∧ Q [] g s6) ∧ (¬ (((up2 (up2 (up2 (up2 s3 o 0 0) o 2 b) o 3 1000000000) o 12 c) o 1) = 0) → ∃ (v7 : Int), Ca d yX3_arrivalOf [vR (some o), vI ((up2 (up2 (up2 (up2 s3 o 0 0) o 2 b) o 3 1000000000) o 12 c) o 10)] g (up2 (up2 (up2 (up2 s3 o 0 0) o 2 b) o 3 1000000000) o 12 c) [vI v7] g (up2 (up2 (up2 (up2 s3 o 0 0) o 2 b) o 3 1000000000) o 12 c) ∧ iR v7 ∧ (v7 = 1000000000 → Q [] g (up2 (up2 (up2 (up2 s3 o 0 0) o 2 b) o 3 1000000000) o 12 c)) ∧ (¬ (v7 = 1000000000) → ∃ (v8 : Int), Ca d yX3_harmCovered [vR (some o)] g (up2 (up2 (up2 (up2 s3 o 0 0) o 2 b) o 3 1000000000) o 12 c) [vI v8] g (up2 (up2 (up2 (up2 s3 o 0 0) o 2 b) o 3 1000000000) o 12 c) ∧ ∃ (v9 : Int), Ca d yX4_usedLoads [vR (some a)] g (up2 (up2 (up2 (up2 s3 o 0 0) o 2 b) o 3 1000000000) o 12 c) [vI v9] g (up2 (up2 (up2 (up2 s3 o 0 0) o 2 b) o 3 1000000000) o 12 c) ∧ ∃ (s10 : pM), Ca d yX3_extend [vR (some o), vI 0, vI ((up2 (up2 (up2 (up2 s3 o 0 0) o 2 b) o 3 1000000000) o 12 c) a 3), vI v8, vI v9] g (up2 (up2 (up2 (up2 s3 o 0 0) o 2 b) o 3 1000000000) o 12 c) [] g s10 ∧ Q [] g s10))) : P 0 [(0, vR (some o)), (1, vR (some a)), (2, vI b), (3, vI c)] [] g σ 0 0 := by
  refine x_aloadn hP 1 0 dX3_search_0 rfl rfl mm0 ?_
  refine x_aloadn hP 2 1 dX3_search_1 rfl rfl mm1 ?_
  obtain ⟨s1, hc, h⟩ := h
  refine x_cv hP 5 [vR (some a)] [] dX3_search_2 rfl hg.o (by decide) rfl ml_RX3_45 im_X3_readWall se_X3_readWall it_RX3 pp_X3_readWall bd_X3_readWall rfl rfl ⟨Nat.le_refl _, Nat.le_refl _⟩ (by simp [pC]) hc ?_
  refine x_aloadn hP 6 0 dX3_search_5 rfl rfl mm0 ?_
  refine x_aloadn hP 7 1 dX3_search_6 rfl rfl mm1 ?_
  obtain ⟨s2, hc, h⟩ := h
  refine x_cv hP 10 [vR (some a)] [] dX3_search_7 rfl hg.o (by decide) rfl ml_RX3_49 im_X3_readCells se_X3_readCells it_RX3 pp_X3_readCells bd_X3_readCells rfl rfl ⟨Nat.le_refl _, Nat.le_refl _⟩ (by simp [pC]) hc ?_
  refine x_aloadn hP 11 0 dX3_search_10 rfl rfl mm0 ?_
  refine x_aloadn hP 12 1 dX3_search_11 rfl rfl mm1 ?_
  obtain ⟨s3, hc, h⟩ := h
  refine x_cv hP 15 [vR (some a)] [] dX3_search_12 rfl hg.o (by decide) rfl ml_RX3_52 im_X3_readArrivals se_X3_readArrivals it_RX3 pp_X3_readArrivals bd_X3_readArrivals rfl rfl ⟨Nat.le_refl _, Nat.le_refl _⟩ (by simp [pC]) hc ?_
  refine x_aloadn hP 16 0 dX3_search_15 rfl rfl mm0 ?_
  refine x_iconst hP 17 dX3_search_16 rfl ?_
  refine x_putf hP 20 dX3_search_17 rfl fl_RX3_31 hg.o (by decide) rfl rfl (fun _ => by decide) ?_
  refine x_aloadn hP 21 0 dX3_search_20 rfl rfl mm0 ?_
  refine x_iloadn hP 22 2 dX3_search_21 rfl rfl mm2 ?_
  refine x_putf hP 25 dX3_search_22 rfl fl_RX3_35 hg.o (by decide) rfl rfl (fun hz => absurd hz (by decide)) ?_
  refine x_aloadn hP 26 0 dX3_search_25 rfl rfl mm0 ?_
  refine x_ldc hP 28 dX3_search_26 rfl kc_RX3_55 ?_
  refine x_putf hP 31 dX3_search_28 rfl fl_RX3_39 hg.o (by decide) rfl rfl (fun hz => absurd hz (by decide)) ?_
  refine x_aloadn hP 32 0 dX3_search_31 rfl rfl mm0 ?_
  refine x_iloadn hP 33 3 dX3_search_32 rfl rfl mm3 ?_
  obtain ⟨hs, h⟩ := h
  refine x_putf hP 36 dX3_search_33 rfl fl_RX3_56 hg.o (by decide) rfl rfl (fun _ => hs) ?_
  refine x_aloadn hP 37 0 dX3_search_36 rfl rfl mm0 ?_
  refine x_geti hP 40 dX3_search_37 rfl fl_RX3_42 hg.o (by decide) rfl ?_
  obtain ⟨hs1, h⟩ := h
  refine x_ifc hP 43 56 (((up2 (up2 (up2 (up2 s3 o 0 0) o 2 b) o 3 1000000000) o 12 c) o 1) = 0) dX3_search_40 rfl rfl hs1 rfl (fun hbr => ?_) (fun hbr => ?_)
  · replace h := h.1 hbr
    refine x_aloadn hP 57 0 dX3_search_56 rfl rfl mm0 ?_
    refine x_iconst hP 58 dX3_search_57 rfl ?_
    refine x_aloadn hP 59 1 dX3_search_58 rfl rfl mm1 ?_
    refine x_geti hP 62 dX3_search_59 rfl fl_RX3_66 ha.o (by decide) rfl ?_
    refine x_aloadn hP 63 0 dX3_search_62 rfl rfl mm0 ?_
    obtain ⟨v4, hc, h⟩ := h
    refine x_cv hP 66 [] [vI ((up2 (up2 (up2 (up2 s3 o 0 0) o 2 b) o 3 1000000000) o 12 c) a 3), vI 0, vR (some o)] dX3_search_63 rfl hg.o (by decide) rfl ml_RX3_71 im_X3_harmCovered se_X3_harmCovered it_RX3 pp_X3_harmCovered bd_X3_harmCovered rfl rfl ⟨Nat.le_refl _, Nat.le_refl _⟩ (by simp [pC]) hc ?_
    refine x_aloadn hP 67 1 dX3_search_66 rfl rfl mm1 ?_
    obtain ⟨v5, hc, h⟩ := h
    refine x_cv hP 70 [] [vI v4, vI ((up2 (up2 (up2 (up2 s3 o 0 0) o 2 b) o 3 1000000000) o 12 c) a 3), vI 0, vR (some o)] dX3_search_67 rfl ha.o (by decide) rfl ml_RX3_75 im_X4_usedLoads se_X4_usedLoads it_RX4 pp_X4_usedLoads bd_X4_usedLoads rfl rfl ⟨Nat.le_refl _, Nat.le_refl _⟩ (by simp [pC]) hc ?_
    obtain ⟨s6, hc, h⟩ := h
    refine x_cv hP 73 [vI 0, vI ((up2 (up2 (up2 (up2 s3 o 0 0) o 2 b) o 3 1000000000) o 12 c) a 3), vI v4, vI v5] [] dX3_search_70 rfl hg.o (by decide) rfl ml_RX3_78 im_X3_extend se_X3_extend it_RX3 pp_X3_extend bd_X3_extend rfl rfl ⟨Nat.le_refl _, Nat.le_refl _⟩ (by simp [pC]) hc ?_
    exact x_vret hP dX3_search_73 ⟨Nat.le_refl _, Nat.le_refl _⟩ h
  · replace h := h.2 hbr
    refine x_aloadn hP 44 0 dX3_search_43 rfl rfl mm0 ?_
    refine x_aloadn hP 45 0 dX3_search_44 rfl rfl mm0 ?_
    refine x_geti hP 48 dX3_search_45 rfl fl_RX3_59 hg.o (by decide) rfl ?_
    obtain ⟨v7, hc, h⟩ := h
    refine x_cv hP 51 [vI ((up2 (up2 (up2 (up2 s3 o 0 0) o 2 b) o 3 1000000000) o 12 c) o 10)] [] dX3_search_48 rfl hg.o (by decide) rfl ml_RX3_62 im_X3_arrivalOf se_X3_arrivalOf it_RX3 pp_X3_arrivalOf bd_X3_arrivalOf rfl rfl ⟨Nat.le_refl _, Nat.le_refl _⟩ (by simp [pC]) hc ?_
    refine x_ldc hP 53 dX3_search_51 rfl kc_RX3_55 ?_
    obtain ⟨hs1, h⟩ := h
    refine x_icmp hP 56 73 (v7 = 1000000000) dX3_search_53 rfl rfl hs1 (by decide) rfl (fun hbr => ?_) (fun hbr => ?_)
    · replace h := h.1 hbr
      exact x_vret hP dX3_search_73 ⟨Nat.le_refl _, Nat.le_refl _⟩ h
    · replace h := h.2 hbr
      refine x_aloadn hP 57 0 dX3_search_56 rfl rfl mm0 ?_
      refine x_iconst hP 58 dX3_search_57 rfl ?_
      refine x_aloadn hP 59 1 dX3_search_58 rfl rfl mm1 ?_
      refine x_geti hP 62 dX3_search_59 rfl fl_RX3_66 ha.o (by decide) rfl ?_
      refine x_aloadn hP 63 0 dX3_search_62 rfl rfl mm0 ?_
      obtain ⟨v8, hc, h⟩ := h
      refine x_cv hP 66 [] [vI ((up2 (up2 (up2 (up2 s3 o 0 0) o 2 b) o 3 1000000000) o 12 c) a 3), vI 0, vR (some o)] dX3_search_63 rfl hg.o (by decide) rfl ml_RX3_71 im_X3_harmCovered se_X3_harmCovered it_RX3 pp_X3_harmCovered bd_X3_harmCovered rfl rfl ⟨Nat.le_refl _, Nat.le_refl _⟩ (by simp [pC]) hc ?_
      refine x_aloadn hP 67 1 dX3_search_66 rfl rfl mm1 ?_
      obtain ⟨v9, hc, h⟩ := h
      refine x_cv hP 70 [] [vI v8, vI ((up2 (up2 (up2 (up2 s3 o 0 0) o 2 b) o 3 1000000000) o 12 c) a 3), vI 0, vR (some o)] dX3_search_67 rfl ha.o (by decide) rfl ml_RX3_75 im_X4_usedLoads se_X4_usedLoads it_RX4 pp_X4_usedLoads bd_X4_usedLoads rfl rfl ⟨Nat.le_refl _, Nat.le_refl _⟩ (by simp [pC]) hc ?_
      obtain ⟨s10, hc, h⟩ := h
      refine x_cv hP 73 [vI 0, vI ((up2 (up2 (up2 (up2 s3 o 0 0) o 2 b) o 3 1000000000) o 12 c) a 3), vI v8, vI v9] [] dX3_search_70 rfl hg.o (by decide) rfl ml_RX3_78 im_X3_extend se_X3_extend it_RX3 pp_X3_extend bd_X3_extend rfl rfl ⟨Nat.le_refl _, Nat.le_refl _⟩ (by simp [pC]) hc ?_
      exact x_vret hP dX3_search_73 ⟨Nat.le_refl _, Nat.le_refl _⟩ h
theorem k_X3_readWall_0 {d : Nat} {Q : pQ} {P : pP} {g : pG} {σ : pM} (hP : Clo (pCall d) yX3_readWall cX3_readWall none 2 0 0 Q P) (o : Nat) (a : Nat) (hg : gPl g o) (ha : gWl g a) (h : Q [] g (up2 (up2 (up2 (up2 (up2 (up2 σ o 4 (σ a 0)) o 5 ((up2 σ o 4 (σ a 0)) a 1)) o 6 ((up2 (up2 σ o 4 (σ a 0)) o 5 ((up2 σ o 4 (σ a 0)) a 1)) a 2)) o 7 ((up2 (up2 (up2 σ o 4 (σ a 0)) o 5 ((up2 σ o 4 (σ a 0)) a 1)) o 6 ((up2 (up2 σ o 4 (σ a 0)) o 5 ((up2 σ o 4 (σ a 0)) a 1)) a 2)) a 4)) o 8 ((up2 (up2 (up2 (up2 σ o 4 (σ a 0)) o 5 ((up2 σ o 4 (σ a 0)) a 1)) o 6 ((up2 (up2 σ o 4 (σ a 0)) o 5 ((up2 σ o 4 (σ a 0)) a 1)) a 2)) o 7 ((up2 (up2 (up2 σ o 4 (σ a 0)) o 5 ((up2 σ o 4 (σ a 0)) a 1)) o 6 ((up2 (up2 σ o 4 (σ a 0)) o 5 ((up2 σ o 4 (σ a 0)) a 1)) a 2)) a 4)) a 5)) o 9 ((up2 (up2 (up2 (up2 (up2 σ o 4 (σ a 0)) o 5 ((up2 σ o 4 (σ a 0)) a 1)) o 6 ((up2 (up2 σ o 4 (σ a 0)) o 5 ((up2 σ o 4 (σ a 0)) a 1)) a 2)) o 7 ((up2 (up2 (up2 σ o 4 (σ a 0)) o 5 ((up2 σ o 4 (σ a 0)) a 1)) o 6 ((up2 (up2 σ o 4 (σ a 0)) o 5 ((up2 σ o 4 (σ a 0)) a 1)) a 2)) a 4)) o 8 ((up2 (up2 (up2 (up2 σ o 4 (σ a 0)) o 5 ((up2 σ o 4 (σ a 0)) a 1)) o 6 ((up2 (up2 σ o 4 (σ a 0)) o 5 ((up2 σ o 4 (σ a 0)) a 1)) a 2)) o 7 ((up2 (up2 (up2 σ o 4 (σ a 0)) o 5 ((up2 σ o 4 (σ a 0)) a 1)) o 6 ((up2 (up2 σ o 4 (σ a 0)) o 5 ((up2 σ o 4 (σ a 0)) a 1)) a 2)) a 4)) a 5)) a 6))) : P 0 [(0, vR (some o)), (1, vR (some a))] [] g σ 0 0 := by
  refine x_aloadn hP 1 0 dX3_readWall_0 rfl rfl mm0 ?_
  refine x_aloadn hP 2 1 dX3_readWall_1 rfl rfl mm1 ?_
  refine x_geti hP 5 dX3_readWall_2 rfl fl_RX3_82 ha.o (by decide) rfl ?_
  refine x_putf hP 8 dX3_readWall_5 rfl fl_RX3_85 hg.o (by decide) rfl rfl (fun hz => absurd hz (by decide)) ?_
  refine x_aloadn hP 9 0 dX3_readWall_8 rfl rfl mm0 ?_
  refine x_aloadn hP 10 1 dX3_readWall_9 rfl rfl mm1 ?_
  refine x_geti hP 13 dX3_readWall_10 rfl fl_RX3_86 ha.o (by decide) rfl ?_
  refine x_putf hP 16 dX3_readWall_13 rfl fl_RX3_89 hg.o (by decide) rfl rfl (fun hz => absurd hz (by decide)) ?_
  refine x_aloadn hP 17 0 dX3_readWall_16 rfl rfl mm0 ?_
  refine x_aloadn hP 18 1 dX3_readWall_17 rfl rfl mm1 ?_
  refine x_geti hP 21 dX3_readWall_18 rfl fl_RX3_90 ha.o (by decide) rfl ?_
  refine x_putf hP 24 dX3_readWall_21 rfl fl_RX3_93 hg.o (by decide) rfl rfl (fun hz => absurd hz (by decide)) ?_
  refine x_aloadn hP 25 0 dX3_readWall_24 rfl rfl mm0 ?_
  refine x_aloadn hP 26 1 dX3_readWall_25 rfl rfl mm1 ?_
  refine x_geti hP 29 dX3_readWall_26 rfl fl_RX3_94 ha.o (by decide) rfl ?_
  refine x_putf hP 32 dX3_readWall_29 rfl fl_RX3_97 hg.o (by decide) rfl rfl (fun hz => absurd hz (by decide)) ?_
  refine x_aloadn hP 33 0 dX3_readWall_32 rfl rfl mm0 ?_
  refine x_aloadn hP 34 1 dX3_readWall_33 rfl rfl mm1 ?_
  refine x_geti hP 37 dX3_readWall_34 rfl fl_RX3_98 ha.o (by decide) rfl ?_
  refine x_putf hP 40 dX3_readWall_37 rfl fl_RX3_101 hg.o (by decide) rfl rfl (fun hz => absurd hz (by decide)) ?_
  refine x_aloadn hP 41 0 dX3_readWall_40 rfl rfl mm0 ?_
  refine x_aloadn hP 42 1 dX3_readWall_41 rfl rfl mm1 ?_
  refine x_geti hP 45 dX3_readWall_42 rfl fl_RX3_102 ha.o (by decide) rfl ?_
  refine x_putf hP 48 dX3_readWall_45 rfl fl_RX3_105 hg.o (by decide) rfl rfl (fun hz => absurd hz (by decide)) ?_
  exact x_vret hP dX3_readWall_48 ⟨Nat.le_refl _, Nat.le_refl _⟩ h
theorem k_X3_readCells_0 {d : Nat} {Q : pQ} {P : pP} {g : pG} {σ : pM} (hP : Clo (pCall d) yX3_readCells cX3_readCells none 3 0 0 Q P) (o : Nat) (a : Nat) (hg : gPl g o) (ha : gWl g a) (h : P 17 [(0, vR (some o)), (1, vR (some a)), (2, vI 0)] [] g (up2 (up2 (up2 σ o 1 0) o 10 0) o 11 3) 0 0) : P 0 [(0, vR (some o)), (1, vR (some a))] [] g σ 0 0 := by
  refine x_aloadn hP 1 0 dX3_readCells_0 rfl rfl mm0 ?_
  refine x_iconst hP 2 dX3_readCells_1 rfl ?_
  refine x_putf hP 5 dX3_readCells_2 rfl fl_RX3_42 hg.o (by decide) rfl rfl (fun hz => absurd hz (by decide)) ?_
  refine x_aloadn hP 6 0 dX3_readCells_5 rfl rfl mm0 ?_
  refine x_iconst hP 7 dX3_readCells_6 rfl ?_
  refine x_putf hP 10 dX3_readCells_7 rfl fl_RX3_59 hg.o (by decide) rfl rfl (fun hz => absurd hz (by decide)) ?_
  refine x_aloadn hP 11 0 dX3_readCells_10 rfl rfl mm0 ?_
  refine x_iconst hP 12 dX3_readCells_11 rfl ?_
  refine x_putf hP 15 dX3_readCells_12 rfl fl_RX3_106 hg.o (by decide) rfl rfl (fun hz => absurd hz (by decide)) ?_
  refine x_iconst hP 16 dX3_readCells_15 rfl ?_
  refine x_istoren hP 17 2 [(0, vR (some o)), (1, vR (some a)), (2, vI 0)] dX3_readCells_16 rfl rfl (by decide) rfl rfl ?_
  exact h
theorem k_X3_readCells_17 {d : Nat} {Q : pQ} {P : pP} {g : pG} {σ : pM} (hP : Clo (pCall d) yX3_readCells cX3_readCells none 3 0 0 Q P) (o : Nat) (a : Nat) (x2 : Int) (hg : gPl g o) (ha : gWl g a) (h : iR x2 ∧ iR (σ o 6) ∧ ((σ o 6) ≤ x2 → Q [] g σ) ∧ (¬ ((σ o 6) ≤ x2) → (0 ≤ x2 ∧ x2 < 9) ∧ (0 ≤ x2 ∧ x2 < 9) ∧ (0 ≤ x2 ∧ x2 < 9) ∧ ∃ (v1 : Int), Ca d yX4_isPoured [vR (some a), vI x2] g (up2 (up2 σ (o + 1) (Int.toNat x2) (σ (a + 1) (Int.toNat x2))) o 10 (((up2 σ (o + 1) (Int.toNat x2) (σ (a + 1) (Int.toNat x2))) o 10) + ((up2 σ (o + 1) (Int.toNat x2) (σ (a + 1) (Int.toNat x2))) (o + 1) (Int.toNat x2)))) [vI v1] g (up2 (up2 σ (o + 1) (Int.toNat x2) (σ (a + 1) (Int.toNat x2))) o 10 (((up2 σ (o + 1) (Int.toNat x2) (σ (a + 1) (Int.toNat x2))) o 10) + ((up2 σ (o + 1) (Int.toNat x2) (σ (a + 1) (Int.toNat x2))) (o + 1) (Int.toNat x2)))) ∧ iR v1 ∧ (v1 = 0 → (0 ≤ x2 ∧ x2 < 9) ∧ iR (x2 + ((up2 (up2 (up2 (up2 σ (o + 1) (Int.toNat x2) (σ (a + 1) (Int.toNat x2))) o 10 (((up2 σ (o + 1) (Int.toNat x2) (σ (a + 1) (Int.toNat x2))) o 10) + ((up2 σ (o + 1) (Int.toNat x2) (σ (a + 1) (Int.toNat x2))) (o + 1) (Int.toNat x2)))) (o + 2) (Int.toNat x2) 1000000000) o 1 (((up2 (up2 (up2 σ (o + 1) (Int.toNat x2) (σ (a + 1) (Int.toNat x2))) o 10 (((up2 σ (o + 1) (Int.toNat x2) (σ (a + 1) (Int.toNat x2))) o 10) + ((up2 σ (o + 1) (Int.toNat x2) (σ (a + 1) (Int.toNat x2))) (o + 1) (Int.toNat x2)))) (o + 2) (Int.toNat x2) 1000000000) o 1) + 1)) o 4)) ∧ iR ((up2 (up2 (up2 (up2 σ (o + 1) (Int.toNat x2) (σ (a + 1) (Int.toNat x2))) o 10 (((up2 σ (o + 1) (Int.toNat x2) (σ (a + 1) (Int.toNat x2))) o 10) + ((up2 σ (o + 1) (Int.toNat x2) (σ (a + 1) (Int.toNat x2))) (o + 1) (Int.toNat x2)))) (o + 2) (Int.toNat x2) 1000000000) o 1 (((up2 (up2 (up2 σ (o + 1) (Int.toNat x2) (σ (a + 1) (Int.toNat x2))) o 10 (((up2 σ (o + 1) (Int.toNat x2) (σ (a + 1) (Int.toNat x2))) o 10) + ((up2 σ (o + 1) (Int.toNat x2) (σ (a + 1) (Int.toNat x2))) (o + 1) (Int.toNat x2)))) (o + 2) (Int.toNat x2) 1000000000) o 1) + 1)) o 6) ∧ ((x2 + ((up2 (up2 (up2 (up2 σ (o + 1) (Int.toNat x2) (σ (a + 1) (Int.toNat x2))) o 10 (((up2 σ (o + 1) (Int.toNat x2) (σ (a + 1) (Int.toNat x2))) o 10) + ((up2 σ (o + 1) (Int.toNat x2) (σ (a + 1) (Int.toNat x2))) (o + 1) (Int.toNat x2)))) (o + 2) (Int.toNat x2) 1000000000) o 1 (((up2 (up2 (up2 σ (o + 1) (Int.toNat x2) (σ (a + 1) (Int.toNat x2))) o 10 (((up2 σ (o + 1) (Int.toNat x2) (σ (a + 1) (Int.toNat x2))) o 10) + ((up2 σ (o + 1) (Int.toNat x2) (σ (a + 1) (Int.toNat x2))) (o + 1) (Int.toNat x2)))) (o + 2) (Int.toNat x2) 1000000000) o 1) + 1)) o 4)) < ((up2 (up2 (up2 (up2 σ (o + 1) (Int.toNat x2) (σ (a + 1) (Int.toNat x2))) o 10 (((up2 σ (o + 1) (Int.toNat x2) (σ (a + 1) (Int.toNat x2))) o 10) + ((up2 σ (o + 1) (Int.toNat x2) (σ (a + 1) (Int.toNat x2))) (o + 1) (Int.toNat x2)))) (o + 2) (Int.toNat x2) 1000000000) o 1 (((up2 (up2 (up2 σ (o + 1) (Int.toNat x2) (σ (a + 1) (Int.toNat x2))) o 10 (((up2 σ (o + 1) (Int.toNat x2) (σ (a + 1) (Int.toNat x2))) o 10) + ((up2 σ (o + 1) (Int.toNat x2) (σ (a + 1) (Int.toNat x2))) (o + 1) (Int.toNat x2)))) (o + 2) (Int.toNat x2) 1000000000) o 1) + 1)) o 6) → P 17 [(0, vR (some o)), (1, vR (some a)), (2, vI (x2 + 1))] [] g (up2 (up2 (up2 (up2 σ (o + 1) (Int.toNat x2) (σ (a + 1) (Int.toNat x2))) o 10 (((up2 σ (o + 1) (Int.toNat x2) (σ (a + 1) (Int.toNat x2))) o 10) + ((up2 σ (o + 1) (Int.toNat x2) (σ (a + 1) (Int.toNat x2))) (o + 1) (Int.toNat x2)))) (o + 2) (Int.toNat x2) 1000000000) o 1 (((up2 (up2 (up2 σ (o + 1) (Int.toNat x2) (σ (a + 1) (Int.toNat x2))) o 10 (((up2 σ (o + 1) (Int.toNat x2) (σ (a + 1) (Int.toNat x2))) o 10) + ((up2 σ (o + 1) (Int.toNat x2) (σ (a + 1) (Int.toNat x2))) (o + 1) (Int.toNat x2)))) (o + 2) (Int.toNat x2) 1000000000) o 1) + 1)) 0 0) ∧ (¬ ((x2 + ((up2 (up2 (up2 (up2 σ (o + 1) (Int.toNat x2) (σ (a + 1) (Int.toNat x2))) o 10 (((up2 σ (o + 1) (Int.toNat x2) (σ (a + 1) (Int.toNat x2))) o 10) + ((up2 σ (o + 1) (Int.toNat x2) (σ (a + 1) (Int.toNat x2))) (o + 1) (Int.toNat x2)))) (o + 2) (Int.toNat x2) 1000000000) o 1 (((up2 (up2 (up2 σ (o + 1) (Int.toNat x2) (σ (a + 1) (Int.toNat x2))) o 10 (((up2 σ (o + 1) (Int.toNat x2) (σ (a + 1) (Int.toNat x2))) o 10) + ((up2 σ (o + 1) (Int.toNat x2) (σ (a + 1) (Int.toNat x2))) (o + 1) (Int.toNat x2)))) (o + 2) (Int.toNat x2) 1000000000) o 1) + 1)) o 4)) < ((up2 (up2 (up2 (up2 σ (o + 1) (Int.toNat x2) (σ (a + 1) (Int.toNat x2))) o 10 (((up2 σ (o + 1) (Int.toNat x2) (σ (a + 1) (Int.toNat x2))) o 10) + ((up2 σ (o + 1) (Int.toNat x2) (σ (a + 1) (Int.toNat x2))) (o + 1) (Int.toNat x2)))) (o + 2) (Int.toNat x2) 1000000000) o 1 (((up2 (up2 (up2 σ (o + 1) (Int.toNat x2) (σ (a + 1) (Int.toNat x2))) o 10 (((up2 σ (o + 1) (Int.toNat x2) (σ (a + 1) (Int.toNat x2))) o 10) + ((up2 σ (o + 1) (Int.toNat x2) (σ (a + 1) (Int.toNat x2))) (o + 1) (Int.toNat x2)))) (o + 2) (Int.toNat x2) 1000000000) o 1) + 1)) o 6)) → (0 ≤ x2 ∧ x2 < 9) ∧ ∃ (v2 : Int), Ca d yJ9_min_7cf53 [vI ((up2 (up2 (up2 (up2 σ (o + 1) (Int.toNat x2) (σ (a + 1) (Int.toNat x2))) o 10 (((up2 σ (o + 1) (Int.toNat x2) (σ (a + 1) (Int.toNat x2))) o 10) + ((up2 σ (o + 1) (Int.toNat x2) (σ (a + 1) (Int.toNat x2))) (o + 1) (Int.toNat x2)))) (o + 2) (Int.toNat x2) 1000000000) o 1 (((up2 (up2 (up2 σ (o + 1) (Int.toNat x2) (σ (a + 1) (Int.toNat x2))) o 10 (((up2 σ (o + 1) (Int.toNat x2) (σ (a + 1) (Int.toNat x2))) o 10) + ((up2 σ (o + 1) (Int.toNat x2) (σ (a + 1) (Int.toNat x2))) (o + 1) (Int.toNat x2)))) (o + 2) (Int.toNat x2) 1000000000) o 1) + 1)) o 11), vI ((up2 (up2 (up2 (up2 σ (o + 1) (Int.toNat x2) (σ (a + 1) (Int.toNat x2))) o 10 (((up2 σ (o + 1) (Int.toNat x2) (σ (a + 1) (Int.toNat x2))) o 10) + ((up2 σ (o + 1) (Int.toNat x2) (σ (a + 1) (Int.toNat x2))) (o + 1) (Int.toNat x2)))) (o + 2) (Int.toNat x2) 1000000000) o 1 (((up2 (up2 (up2 σ (o + 1) (Int.toNat x2) (σ (a + 1) (Int.toNat x2))) o 10 (((up2 σ (o + 1) (Int.toNat x2) (σ (a + 1) (Int.toNat x2))) o 10) + ((up2 σ (o + 1) (Int.toNat x2) (σ (a + 1) (Int.toNat x2))) (o + 1) (Int.toNat x2)))) (o + 2) (Int.toNat x2) 1000000000) o 1) + 1)) (o + 1) (Int.toNat x2))] g (up2 (up2 (up2 (up2 σ (o + 1) (Int.toNat x2) (σ (a + 1) (Int.toNat x2))) o 10 (((up2 σ (o + 1) (Int.toNat x2) (σ (a + 1) (Int.toNat x2))) o 10) + ((up2 σ (o + 1) (Int.toNat x2) (σ (a + 1) (Int.toNat x2))) (o + 1) (Int.toNat x2)))) (o + 2) (Int.toNat x2) 1000000000) o 1 (((up2 (up2 (up2 σ (o + 1) (Int.toNat x2) (σ (a + 1) (Int.toNat x2))) o 10 (((up2 σ (o + 1) (Int.toNat x2) (σ (a + 1) (Int.toNat x2))) o 10) + ((up2 σ (o + 1) (Int.toNat x2) (σ (a + 1) (Int.toNat x2))) (o + 1) (Int.toNat x2)))) (o + 2) (Int.toNat x2) 1000000000) o 1) + 1)) [vI v2] g (up2 (up2 (up2 (up2 σ (o + 1) (Int.toNat x2) (σ (a + 1) (Int.toNat x2))) o 10 (((up2 σ (o + 1) (Int.toNat x2) (σ (a + 1) (Int.toNat x2))) o 10) + ((up2 σ (o + 1) (Int.toNat x2) (σ (a + 1) (Int.toNat x2))) (o + 1) (Int.toNat x2)))) (o + 2) (Int.toNat x2) 1000000000) o 1 (((up2 (up2 (up2 σ (o + 1) (Int.toNat x2) (σ (a + 1) (Int.toNat x2))) o 10 (((up2 σ (o + 1) (Int.toNat x2) (σ (a + 1) (Int.toNat x2))) o 10) + ((up2 σ (o + 1) (Int.toNat x2) (σ (a + 1) (Int.toNat x2))) (o + 1) (Int.toNat x2)))) (o + 2) (Int.toNat x2) 1000000000) o 1) + 1)) ∧ P 17 [(0, vR (some o)), (1, vR (some a)), (2, vI (x2 + 1))] [] g (up2 (up2 (up2 (up2 (up2 σ (o + 1) (Int.toNat x2) (σ (a + 1) (Int.toNat x2))) o 10 (((up2 σ (o + 1) (Int.toNat x2) (σ (a + 1) (Int.toNat x2))) o 10) + ((up2 σ (o + 1) (Int.toNat x2) (σ (a + 1) (Int.toNat x2))) (o + 1) (Int.toNat x2)))) (o + 2) (Int.toNat x2) 1000000000) o 1 (((up2 (up2 (up2 σ (o + 1) (Int.toNat x2) (σ (a + 1) (Int.toNat x2))) o 10 (((up2 σ (o + 1) (Int.toNat x2) (σ (a + 1) (Int.toNat x2))) o 10) + ((up2 σ (o + 1) (Int.toNat x2) (σ (a + 1) (Int.toNat x2))) (o + 1) (Int.toNat x2)))) (o + 2) (Int.toNat x2) 1000000000) o 1) + 1)) o 11 v2) 0 0)) ∧ (¬ (v1 = 0) → (0 ≤ x2 ∧ x2 < 9) ∧ (0 ≤ x2 ∧ x2 < 9) ∧ iR (x2 + ((up2 (up2 (up2 σ (o + 1) (Int.toNat x2) (σ (a + 1) (Int.toNat x2))) o 10 (((up2 σ (o + 1) (Int.toNat x2) (σ (a + 1) (Int.toNat x2))) o 10) + ((up2 σ (o + 1) (Int.toNat x2) (σ (a + 1) (Int.toNat x2))) (o + 1) (Int.toNat x2)))) (o + 2) (Int.toNat x2) ((up2 (up2 σ (o + 1) (Int.toNat x2) (σ (a + 1) (Int.toNat x2))) o 10 (((up2 σ (o + 1) (Int.toNat x2) (σ (a + 1) (Int.toNat x2))) o 10) + ((up2 σ (o + 1) (Int.toNat x2) (σ (a + 1) (Int.toNat x2))) (o + 1) (Int.toNat x2)))) (a + 3) (Int.toNat x2))) o 4)) ∧ iR ((up2 (up2 (up2 σ (o + 1) (Int.toNat x2) (σ (a + 1) (Int.toNat x2))) o 10 (((up2 σ (o + 1) (Int.toNat x2) (σ (a + 1) (Int.toNat x2))) o 10) + ((up2 σ (o + 1) (Int.toNat x2) (σ (a + 1) (Int.toNat x2))) (o + 1) (Int.toNat x2)))) (o + 2) (Int.toNat x2) ((up2 (up2 σ (o + 1) (Int.toNat x2) (σ (a + 1) (Int.toNat x2))) o 10 (((up2 σ (o + 1) (Int.toNat x2) (σ (a + 1) (Int.toNat x2))) o 10) + ((up2 σ (o + 1) (Int.toNat x2) (σ (a + 1) (Int.toNat x2))) (o + 1) (Int.toNat x2)))) (a + 3) (Int.toNat x2))) o 6) ∧ ((x2 + ((up2 (up2 (up2 σ (o + 1) (Int.toNat x2) (σ (a + 1) (Int.toNat x2))) o 10 (((up2 σ (o + 1) (Int.toNat x2) (σ (a + 1) (Int.toNat x2))) o 10) + ((up2 σ (o + 1) (Int.toNat x2) (σ (a + 1) (Int.toNat x2))) (o + 1) (Int.toNat x2)))) (o + 2) (Int.toNat x2) ((up2 (up2 σ (o + 1) (Int.toNat x2) (σ (a + 1) (Int.toNat x2))) o 10 (((up2 σ (o + 1) (Int.toNat x2) (σ (a + 1) (Int.toNat x2))) o 10) + ((up2 σ (o + 1) (Int.toNat x2) (σ (a + 1) (Int.toNat x2))) (o + 1) (Int.toNat x2)))) (a + 3) (Int.toNat x2))) o 4)) < ((up2 (up2 (up2 σ (o + 1) (Int.toNat x2) (σ (a + 1) (Int.toNat x2))) o 10 (((up2 σ (o + 1) (Int.toNat x2) (σ (a + 1) (Int.toNat x2))) o 10) + ((up2 σ (o + 1) (Int.toNat x2) (σ (a + 1) (Int.toNat x2))) (o + 1) (Int.toNat x2)))) (o + 2) (Int.toNat x2) ((up2 (up2 σ (o + 1) (Int.toNat x2) (σ (a + 1) (Int.toNat x2))) o 10 (((up2 σ (o + 1) (Int.toNat x2) (σ (a + 1) (Int.toNat x2))) o 10) + ((up2 σ (o + 1) (Int.toNat x2) (σ (a + 1) (Int.toNat x2))) (o + 1) (Int.toNat x2)))) (a + 3) (Int.toNat x2))) o 6) → P 17 [(0, vR (some o)), (1, vR (some a)), (2, vI (x2 + 1))] [] g (up2 (up2 (up2 σ (o + 1) (Int.toNat x2) (σ (a + 1) (Int.toNat x2))) o 10 (((up2 σ (o + 1) (Int.toNat x2) (σ (a + 1) (Int.toNat x2))) o 10) + ((up2 σ (o + 1) (Int.toNat x2) (σ (a + 1) (Int.toNat x2))) (o + 1) (Int.toNat x2)))) (o + 2) (Int.toNat x2) ((up2 (up2 σ (o + 1) (Int.toNat x2) (σ (a + 1) (Int.toNat x2))) o 10 (((up2 σ (o + 1) (Int.toNat x2) (σ (a + 1) (Int.toNat x2))) o 10) + ((up2 σ (o + 1) (Int.toNat x2) (σ (a + 1) (Int.toNat x2))) (o + 1) (Int.toNat x2)))) (a + 3) (Int.toNat x2))) 0 0) ∧ (¬ ((x2 + ((up2 (up2 (up2 σ (o + 1) (Int.toNat x2) (σ (a + 1) (Int.toNat x2))) o 10 (((up2 σ (o + 1) (Int.toNat x2) (σ (a + 1) (Int.toNat x2))) o 10) + ((up2 σ (o + 1) (Int.toNat x2) (σ (a + 1) (Int.toNat x2))) (o + 1) (Int.toNat x2)))) (o + 2) (Int.toNat x2) ((up2 (up2 σ (o + 1) (Int.toNat x2) (σ (a + 1) (Int.toNat x2))) o 10 (((up2 σ (o + 1) (Int.toNat x2) (σ (a + 1) (Int.toNat x2))) o 10) + ((up2 σ (o + 1) (Int.toNat x2) (σ (a + 1) (Int.toNat x2))) (o + 1) (Int.toNat x2)))) (a + 3) (Int.toNat x2))) o 4)) < ((up2 (up2 (up2 σ (o + 1) (Int.toNat x2) (σ (a + 1) (Int.toNat x2))) o 10 (((up2 σ (o + 1) (Int.toNat x2) (σ (a + 1) (Int.toNat x2))) o 10) + ((up2 σ (o + 1) (Int.toNat x2) (σ (a + 1) (Int.toNat x2))) (o + 1) (Int.toNat x2)))) (o + 2) (Int.toNat x2) ((up2 (up2 σ (o + 1) (Int.toNat x2) (σ (a + 1) (Int.toNat x2))) o 10 (((up2 σ (o + 1) (Int.toNat x2) (σ (a + 1) (Int.toNat x2))) o 10) + ((up2 σ (o + 1) (Int.toNat x2) (σ (a + 1) (Int.toNat x2))) (o + 1) (Int.toNat x2)))) (a + 3) (Int.toNat x2))) o 6)) → (0 ≤ x2 ∧ x2 < 9) ∧ ∃ (v3 : Int), Ca d yJ9_min_7cf53 [vI ((up2 (up2 (up2 σ (o + 1) (Int.toNat x2) (σ (a + 1) (Int.toNat x2))) o 10 (((up2 σ (o + 1) (Int.toNat x2) (σ (a + 1) (Int.toNat x2))) o 10) + ((up2 σ (o + 1) (Int.toNat x2) (σ (a + 1) (Int.toNat x2))) (o + 1) (Int.toNat x2)))) (o + 2) (Int.toNat x2) ((up2 (up2 σ (o + 1) (Int.toNat x2) (σ (a + 1) (Int.toNat x2))) o 10 (((up2 σ (o + 1) (Int.toNat x2) (σ (a + 1) (Int.toNat x2))) o 10) + ((up2 σ (o + 1) (Int.toNat x2) (σ (a + 1) (Int.toNat x2))) (o + 1) (Int.toNat x2)))) (a + 3) (Int.toNat x2))) o 11), vI ((up2 (up2 (up2 σ (o + 1) (Int.toNat x2) (σ (a + 1) (Int.toNat x2))) o 10 (((up2 σ (o + 1) (Int.toNat x2) (σ (a + 1) (Int.toNat x2))) o 10) + ((up2 σ (o + 1) (Int.toNat x2) (σ (a + 1) (Int.toNat x2))) (o + 1) (Int.toNat x2)))) (o + 2) (Int.toNat x2) ((up2 (up2 σ (o + 1) (Int.toNat x2) (σ (a + 1) (Int.toNat x2))) o 10 (((up2 σ (o + 1) (Int.toNat x2) (σ (a + 1) (Int.toNat x2))) o 10) + ((up2 σ (o + 1) (Int.toNat x2) (σ (a + 1) (Int.toNat x2))) (o + 1) (Int.toNat x2)))) (a + 3) (Int.toNat x2))) (o + 1) (Int.toNat x2))] g (up2 (up2 (up2 σ (o + 1) (Int.toNat x2) (σ (a + 1) (Int.toNat x2))) o 10 (((up2 σ (o + 1) (Int.toNat x2) (σ (a + 1) (Int.toNat x2))) o 10) + ((up2 σ (o + 1) (Int.toNat x2) (σ (a + 1) (Int.toNat x2))) (o + 1) (Int.toNat x2)))) (o + 2) (Int.toNat x2) ((up2 (up2 σ (o + 1) (Int.toNat x2) (σ (a + 1) (Int.toNat x2))) o 10 (((up2 σ (o + 1) (Int.toNat x2) (σ (a + 1) (Int.toNat x2))) o 10) + ((up2 σ (o + 1) (Int.toNat x2) (σ (a + 1) (Int.toNat x2))) (o + 1) (Int.toNat x2)))) (a + 3) (Int.toNat x2))) [vI v3] g (up2 (up2 (up2 σ (o + 1) (Int.toNat x2) (σ (a + 1) (Int.toNat x2))) o 10 (((up2 σ (o + 1) (Int.toNat x2) (σ (a + 1) (Int.toNat x2))) o 10) + ((up2 σ (o + 1) (Int.toNat x2) (σ (a + 1) (Int.toNat x2))) (o + 1) (Int.toNat x2)))) (o + 2) (Int.toNat x2) ((up2 (up2 σ (o + 1) (Int.toNat x2) (σ (a + 1) (Int.toNat x2))) o 10 (((up2 σ (o + 1) (Int.toNat x2) (σ (a + 1) (Int.toNat x2))) o 10) + ((up2 σ (o + 1) (Int.toNat x2) (σ (a + 1) (Int.toNat x2))) (o + 1) (Int.toNat x2)))) (a + 3) (Int.toNat x2))) ∧ P 17 [(0, vR (some o)), (1, vR (some a)), (2, vI (x2 + 1))] [] g (up2 (up2 (up2 (up2 σ (o + 1) (Int.toNat x2) (σ (a + 1) (Int.toNat x2))) o 10 (((up2 σ (o + 1) (Int.toNat x2) (σ (a + 1) (Int.toNat x2))) o 10) + ((up2 σ (o + 1) (Int.toNat x2) (σ (a + 1) (Int.toNat x2))) (o + 1) (Int.toNat x2)))) (o + 2) (Int.toNat x2) ((up2 (up2 σ (o + 1) (Int.toNat x2) (σ (a + 1) (Int.toNat x2))) o 10 (((up2 σ (o + 1) (Int.toNat x2) (σ (a + 1) (Int.toNat x2))) o 10) + ((up2 σ (o + 1) (Int.toNat x2) (σ (a + 1) (Int.toNat x2))) (o + 1) (Int.toNat x2)))) (a + 3) (Int.toNat x2))) o 11 v3) 0 0)))) : P 17 [(0, vR (some o)), (1, vR (some a)), (2, vI x2)] [] g σ 0 0 := by
  refine x_iloadn hP 18 2 dX3_readCells_17 rfl rfl mm2 ?_
  refine x_aloadn hP 19 0 dX3_readCells_18 rfl rfl mm0 ?_
  refine x_geti hP 22 dX3_readCells_19 rfl fl_RX3_93 hg.o (by decide) rfl ?_
  obtain ⟨hs1, hs2, h⟩ := h
  refine x_icmp hP 25 129 ((σ o 6) ≤ x2) dX3_readCells_22 rfl rfl hs1 hs2 rfl (fun hbr => ?_) (fun hbr => ?_)
  · replace h := h.1 hbr
    exact x_vret hP dX3_readCells_129 ⟨Nat.le_refl _, Nat.le_refl _⟩ h
  · replace h := h.2 hbr
    refine x_aloadn hP 26 0 dX3_readCells_25 rfl rfl mm0 ?_
    refine x_getr hP 29 (o + 1) dX3_readCells_26 rfl fl_RX3_9 hg.o (by decide) rfl hg.r1 ?_
    refine x_iloadn hP 30 2 dX3_readCells_29 rfl rfl mm2 ?_
    refine x_aloadn hP 31 1 dX3_readCells_30 rfl rfl mm1 ?_
    refine x_getr hP 34 (a + 1) dX3_readCells_31 rfl fl_RX3_109 ha.o (by decide) rfl ha.r1 ?_
    refine x_iloadn hP 35 2 dX3_readCells_34 rfl rfl mm2 ?_
    obtain ⟨hs, h⟩ := h
    refine x_iald hP 36 dX3_readCells_35 rfl ha.a1 (by decide) hs ?_
    obtain ⟨hs1, h⟩ := h
    refine x_iast hP 37 dX3_readCells_36 rfl hg.a1 (by decide) hs1 ?_
    refine x_aloadn hP 38 0 dX3_readCells_37 rfl rfl mm0 ?_
    refine x_dup hP 39 dX3_readCells_38 rfl rfl ?_
    refine x_geti hP 42 dX3_readCells_39 rfl fl_RX3_59 hg.o (by decide) rfl ?_
    refine x_aloadn hP 43 0 dX3_readCells_42 rfl rfl mm0 ?_
    refine x_getr hP 46 (o + 1) dX3_readCells_43 rfl fl_RX3_9 hg.o (by decide) rfl hg.r1 ?_
    refine x_iloadn hP 47 2 dX3_readCells_46 rfl rfl mm2 ?_
    obtain ⟨hs, h⟩ := h
    refine x_iald hP 48 dX3_readCells_47 rfl hg.a1 (by decide) hs ?_
    refine x_iadd hP 49 dX3_readCells_48 rfl ?_
    refine x_putf hP 52 dX3_readCells_49 rfl fl_RX3_59 hg.o (by decide) rfl rfl (fun hz => absurd hz (by decide)) ?_
    refine x_aloadn hP 53 1 dX3_readCells_52 rfl rfl mm1 ?_
    refine x_iloadn hP 54 2 dX3_readCells_53 rfl rfl mm2 ?_
    obtain ⟨v1, hc, h⟩ := h
    refine x_cv hP 57 [vI x2] [] dX3_readCells_54 rfl ha.o (by decide) rfl ml_RX3_110 im_X4_isPoured se_X4_isPoured it_RX4 pp_X4_isPoured bd_X4_isPoured rfl rfl ⟨Nat.le_refl _, Nat.le_refl _⟩ (by simp [pC]) hc ?_
    obtain ⟨hs1, h⟩ := h
    refine x_ifc hP 60 75 (v1 = 0) dX3_readCells_57 rfl rfl hs1 rfl (fun hbr => ?_) (fun hbr => ?_)
    · replace h := h.1 hbr
      refine x_aloadn hP 76 0 dX3_readCells_75 rfl rfl mm0 ?_
      refine x_getr hP 79 (o + 2) dX3_readCells_76 rfl fl_RX3_15 hg.o (by decide) rfl hg.r2 ?_
      refine x_iloadn hP 80 2 dX3_readCells_79 rfl rfl mm2 ?_
      refine x_ldc hP 82 dX3_readCells_80 rfl kc_RX3_55 ?_
      obtain ⟨hs1, h⟩ := h
      refine x_iast hP 83 dX3_readCells_82 rfl hg.a2 (by decide) hs1 ?_
      refine x_aloadn hP 84 0 dX3_readCells_83 rfl rfl mm0 ?_
      refine x_dup hP 85 dX3_readCells_84 rfl rfl ?_
      refine x_geti hP 88 dX3_readCells_85 rfl fl_RX3_42 hg.o (by decide) rfl ?_
      refine x_iconst hP 89 dX3_readCells_88 rfl ?_
      refine x_iadd hP 90 dX3_readCells_89 rfl ?_
      refine x_putf hP 93 dX3_readCells_90 rfl fl_RX3_42 hg.o (by decide) rfl rfl (fun hz => absurd hz (by decide)) ?_
      refine x_iloadn hP 94 2 dX3_readCells_93 rfl rfl mm2 ?_
      refine x_aloadn hP 95 0 dX3_readCells_94 rfl rfl mm0 ?_
      refine x_geti hP 98 dX3_readCells_95 rfl fl_RX3_85 hg.o (by decide) rfl ?_
      refine x_iadd hP 99 dX3_readCells_98 rfl ?_
      refine x_aloadn hP 100 0 dX3_readCells_99 rfl rfl mm0 ?_
      refine x_geti hP 103 dX3_readCells_100 rfl fl_RX3_93 hg.o (by decide) rfl ?_
      obtain ⟨hs1, hs2, h⟩ := h
      refine x_icmp hP 106 123 ((x2 + ((up2 (up2 (up2 (up2 σ (o + 1) (Int.toNat x2) (σ (a + 1) (Int.toNat x2))) o 10 (((up2 σ (o + 1) (Int.toNat x2) (σ (a + 1) (Int.toNat x2))) o 10) + ((up2 σ (o + 1) (Int.toNat x2) (σ (a + 1) (Int.toNat x2))) (o + 1) (Int.toNat x2)))) (o + 2) (Int.toNat x2) 1000000000) o 1 (((up2 (up2 (up2 σ (o + 1) (Int.toNat x2) (σ (a + 1) (Int.toNat x2))) o 10 (((up2 σ (o + 1) (Int.toNat x2) (σ (a + 1) (Int.toNat x2))) o 10) + ((up2 σ (o + 1) (Int.toNat x2) (σ (a + 1) (Int.toNat x2))) (o + 1) (Int.toNat x2)))) (o + 2) (Int.toNat x2) 1000000000) o 1) + 1)) o 4)) < ((up2 (up2 (up2 (up2 σ (o + 1) (Int.toNat x2) (σ (a + 1) (Int.toNat x2))) o 10 (((up2 σ (o + 1) (Int.toNat x2) (σ (a + 1) (Int.toNat x2))) o 10) + ((up2 σ (o + 1) (Int.toNat x2) (σ (a + 1) (Int.toNat x2))) (o + 1) (Int.toNat x2)))) (o + 2) (Int.toNat x2) 1000000000) o 1 (((up2 (up2 (up2 σ (o + 1) (Int.toNat x2) (σ (a + 1) (Int.toNat x2))) o 10 (((up2 σ (o + 1) (Int.toNat x2) (σ (a + 1) (Int.toNat x2))) o 10) + ((up2 σ (o + 1) (Int.toNat x2) (σ (a + 1) (Int.toNat x2))) (o + 1) (Int.toNat x2)))) (o + 2) (Int.toNat x2) 1000000000) o 1) + 1)) o 6)) dX3_readCells_103 rfl rfl hs1 hs2 rfl (fun hbr => ?_) (fun hbr => ?_)
      · replace h := h.1 hbr
        refine x_iinc hP 126 [(0, vR (some o)), (1, vR (some a)), (2, vI (x2 + 1))] dX3_readCells_123 rfl mm2 (by decide) rfl rfl ?_
        refine x_goto hP 17 dX3_readCells_126 rfl ?_
        exact h
      · replace h := h.2 hbr
        refine x_aloadn hP 107 0 dX3_readCells_106 rfl rfl mm0 ?_
        refine x_aloadn hP 108 0 dX3_readCells_107 rfl rfl mm0 ?_
        refine x_geti hP 111 dX3_readCells_108 rfl fl_RX3_106 hg.o (by decide) rfl ?_
        refine x_aloadn hP 112 0 dX3_readCells_111 rfl rfl mm0 ?_
        refine x_getr hP 115 (o + 1) dX3_readCells_112 rfl fl_RX3_9 hg.o (by decide) rfl hg.r1 ?_
        refine x_iloadn hP 116 2 dX3_readCells_115 rfl rfl mm2 ?_
        obtain ⟨hs, h⟩ := h
        refine x_iald hP 117 dX3_readCells_116 rfl hg.a1 (by decide) hs ?_
        obtain ⟨v2, hc, h⟩ := h
        refine x_cs hP 120 [vI ((up2 (up2 (up2 (up2 σ (o + 1) (Int.toNat x2) (σ (a + 1) (Int.toNat x2))) o 10 (((up2 σ (o + 1) (Int.toNat x2) (σ (a + 1) (Int.toNat x2))) o 10) + ((up2 σ (o + 1) (Int.toNat x2) (σ (a + 1) (Int.toNat x2))) (o + 1) (Int.toNat x2)))) (o + 2) (Int.toNat x2) 1000000000) o 1 (((up2 (up2 (up2 σ (o + 1) (Int.toNat x2) (σ (a + 1) (Int.toNat x2))) o 10 (((up2 σ (o + 1) (Int.toNat x2) (σ (a + 1) (Int.toNat x2))) o 10) + ((up2 σ (o + 1) (Int.toNat x2) (σ (a + 1) (Int.toNat x2))) (o + 1) (Int.toNat x2)))) (o + 2) (Int.toNat x2) 1000000000) o 1) + 1)) o 11), vI ((up2 (up2 (up2 (up2 σ (o + 1) (Int.toNat x2) (σ (a + 1) (Int.toNat x2))) o 10 (((up2 σ (o + 1) (Int.toNat x2) (σ (a + 1) (Int.toNat x2))) o 10) + ((up2 σ (o + 1) (Int.toNat x2) (σ (a + 1) (Int.toNat x2))) (o + 1) (Int.toNat x2)))) (o + 2) (Int.toNat x2) 1000000000) o 1 (((up2 (up2 (up2 σ (o + 1) (Int.toNat x2) (σ (a + 1) (Int.toNat x2))) o 10 (((up2 σ (o + 1) (Int.toNat x2) (σ (a + 1) (Int.toNat x2))) o 10) + ((up2 σ (o + 1) (Int.toNat x2) (σ (a + 1) (Int.toNat x2))) (o + 1) (Int.toNat x2)))) (o + 2) (Int.toNat x2) 1000000000) o 1) + 1)) (o + 1) (Int.toNat x2))] [vR (some o)] dX3_readCells_117 rfl ml_RX3_115 sm_J9_min_7cf53 it_RJ9 pp_J9_min_7cf53 bd_J9_min_7cf53 rfl rfl ⟨Nat.le_refl _, Nat.le_refl _⟩ (by simp [pC]) hc ?_
        refine x_putf hP 123 dX3_readCells_120 rfl fl_RX3_106 hg.o (by decide) rfl rfl (fun hz => absurd hz (by decide)) ?_
        refine x_iinc hP 126 [(0, vR (some o)), (1, vR (some a)), (2, vI (x2 + 1))] dX3_readCells_123 rfl mm2 (by decide) rfl rfl ?_
        refine x_goto hP 17 dX3_readCells_126 rfl ?_
        exact h
    · replace h := h.2 hbr
      refine x_aloadn hP 61 0 dX3_readCells_60 rfl rfl mm0 ?_
      refine x_getr hP 64 (o + 2) dX3_readCells_61 rfl fl_RX3_15 hg.o (by decide) rfl hg.r2 ?_
      refine x_iloadn hP 65 2 dX3_readCells_64 rfl rfl mm2 ?_
      refine x_aloadn hP 66 1 dX3_readCells_65 rfl rfl mm1 ?_
      refine x_getr hP 69 (a + 3) dX3_readCells_66 rfl fl_RX3_114 ha.o (by decide) rfl ha.r3 ?_
      refine x_iloadn hP 70 2 dX3_readCells_69 rfl rfl mm2 ?_
      obtain ⟨hs, h⟩ := h
      refine x_iald hP 71 dX3_readCells_70 rfl ha.a3 (by decide) hs ?_
      obtain ⟨hs1, h⟩ := h
      refine x_iast hP 72 dX3_readCells_71 rfl hg.a2 (by decide) hs1 ?_
      refine x_goto hP 93 dX3_readCells_72 rfl ?_
      refine x_iloadn hP 94 2 dX3_readCells_93 rfl rfl mm2 ?_
      refine x_aloadn hP 95 0 dX3_readCells_94 rfl rfl mm0 ?_
      refine x_geti hP 98 dX3_readCells_95 rfl fl_RX3_85 hg.o (by decide) rfl ?_
      refine x_iadd hP 99 dX3_readCells_98 rfl ?_
      refine x_aloadn hP 100 0 dX3_readCells_99 rfl rfl mm0 ?_
      refine x_geti hP 103 dX3_readCells_100 rfl fl_RX3_93 hg.o (by decide) rfl ?_
      obtain ⟨hs1, hs2, h⟩ := h
      refine x_icmp hP 106 123 ((x2 + ((up2 (up2 (up2 σ (o + 1) (Int.toNat x2) (σ (a + 1) (Int.toNat x2))) o 10 (((up2 σ (o + 1) (Int.toNat x2) (σ (a + 1) (Int.toNat x2))) o 10) + ((up2 σ (o + 1) (Int.toNat x2) (σ (a + 1) (Int.toNat x2))) (o + 1) (Int.toNat x2)))) (o + 2) (Int.toNat x2) ((up2 (up2 σ (o + 1) (Int.toNat x2) (σ (a + 1) (Int.toNat x2))) o 10 (((up2 σ (o + 1) (Int.toNat x2) (σ (a + 1) (Int.toNat x2))) o 10) + ((up2 σ (o + 1) (Int.toNat x2) (σ (a + 1) (Int.toNat x2))) (o + 1) (Int.toNat x2)))) (a + 3) (Int.toNat x2))) o 4)) < ((up2 (up2 (up2 σ (o + 1) (Int.toNat x2) (σ (a + 1) (Int.toNat x2))) o 10 (((up2 σ (o + 1) (Int.toNat x2) (σ (a + 1) (Int.toNat x2))) o 10) + ((up2 σ (o + 1) (Int.toNat x2) (σ (a + 1) (Int.toNat x2))) (o + 1) (Int.toNat x2)))) (o + 2) (Int.toNat x2) ((up2 (up2 σ (o + 1) (Int.toNat x2) (σ (a + 1) (Int.toNat x2))) o 10 (((up2 σ (o + 1) (Int.toNat x2) (σ (a + 1) (Int.toNat x2))) o 10) + ((up2 σ (o + 1) (Int.toNat x2) (σ (a + 1) (Int.toNat x2))) (o + 1) (Int.toNat x2)))) (a + 3) (Int.toNat x2))) o 6)) dX3_readCells_103 rfl rfl hs1 hs2 rfl (fun hbr => ?_) (fun hbr => ?_)
      · replace h := h.1 hbr
        refine x_iinc hP 126 [(0, vR (some o)), (1, vR (some a)), (2, vI (x2 + 1))] dX3_readCells_123 rfl mm2 (by decide) rfl rfl ?_
        refine x_goto hP 17 dX3_readCells_126 rfl ?_
        exact h
      · replace h := h.2 hbr
        refine x_aloadn hP 107 0 dX3_readCells_106 rfl rfl mm0 ?_
        refine x_aloadn hP 108 0 dX3_readCells_107 rfl rfl mm0 ?_
        refine x_geti hP 111 dX3_readCells_108 rfl fl_RX3_106 hg.o (by decide) rfl ?_
        refine x_aloadn hP 112 0 dX3_readCells_111 rfl rfl mm0 ?_
        refine x_getr hP 115 (o + 1) dX3_readCells_112 rfl fl_RX3_9 hg.o (by decide) rfl hg.r1 ?_
        refine x_iloadn hP 116 2 dX3_readCells_115 rfl rfl mm2 ?_
        obtain ⟨hs, h⟩ := h
        refine x_iald hP 117 dX3_readCells_116 rfl hg.a1 (by decide) hs ?_
        obtain ⟨v3, hc, h⟩ := h
        refine x_cs hP 120 [vI ((up2 (up2 (up2 σ (o + 1) (Int.toNat x2) (σ (a + 1) (Int.toNat x2))) o 10 (((up2 σ (o + 1) (Int.toNat x2) (σ (a + 1) (Int.toNat x2))) o 10) + ((up2 σ (o + 1) (Int.toNat x2) (σ (a + 1) (Int.toNat x2))) (o + 1) (Int.toNat x2)))) (o + 2) (Int.toNat x2) ((up2 (up2 σ (o + 1) (Int.toNat x2) (σ (a + 1) (Int.toNat x2))) o 10 (((up2 σ (o + 1) (Int.toNat x2) (σ (a + 1) (Int.toNat x2))) o 10) + ((up2 σ (o + 1) (Int.toNat x2) (σ (a + 1) (Int.toNat x2))) (o + 1) (Int.toNat x2)))) (a + 3) (Int.toNat x2))) o 11), vI ((up2 (up2 (up2 σ (o + 1) (Int.toNat x2) (σ (a + 1) (Int.toNat x2))) o 10 (((up2 σ (o + 1) (Int.toNat x2) (σ (a + 1) (Int.toNat x2))) o 10) + ((up2 σ (o + 1) (Int.toNat x2) (σ (a + 1) (Int.toNat x2))) (o + 1) (Int.toNat x2)))) (o + 2) (Int.toNat x2) ((up2 (up2 σ (o + 1) (Int.toNat x2) (σ (a + 1) (Int.toNat x2))) o 10 (((up2 σ (o + 1) (Int.toNat x2) (σ (a + 1) (Int.toNat x2))) o 10) + ((up2 σ (o + 1) (Int.toNat x2) (σ (a + 1) (Int.toNat x2))) (o + 1) (Int.toNat x2)))) (a + 3) (Int.toNat x2))) (o + 1) (Int.toNat x2))] [vR (some o)] dX3_readCells_117 rfl ml_RX3_115 sm_J9_min_7cf53 it_RJ9 pp_J9_min_7cf53 bd_J9_min_7cf53 rfl rfl ⟨Nat.le_refl _, Nat.le_refl _⟩ (by simp [pC]) hc ?_
        refine x_putf hP 123 dX3_readCells_120 rfl fl_RX3_106 hg.o (by decide) rfl rfl (fun hz => absurd hz (by decide)) ?_
        refine x_iinc hP 126 [(0, vR (some o)), (1, vR (some a)), (2, vI (x2 + 1))] dX3_readCells_123 rfl mm2 (by decide) rfl rfl ?_
        refine x_goto hP 17 dX3_readCells_126 rfl ?_
        exact h
theorem k_X3_readArrivals_0 {d : Nat} {Q : pQ} {P : pP} {g : pG} {σ : pM} (hP : Clo (pCall d) yX3_readArrivals cX3_readArrivals none 6 0 0 Q P) (o : Nat) (a : Nat) (hg : gPl g o) (ha : gWl g a) (h : ∃ (s1 : pM), Ca d yX5_fillRow [vR (some (o + 5)), vI 1000000000] g σ [] g s1 ∧ P 11 [(0, vR (some o)), (1, vR (some a)), (2, vI 0)] [] g s1 0 0) : P 0 [(0, vR (some o)), (1, vR (some a))] [] g σ 0 0 := by
  refine x_aloadn hP 1 0 dX3_readArrivals_0 rfl rfl mm0 ?_
  refine x_getr hP 4 (o + 5) dX3_readArrivals_1 rfl fl_RX3_24 hg.o (by decide) rfl hg.r5 ?_
  refine x_ldc hP 6 dX3_readArrivals_4 rfl kc_RX3_55 ?_
  obtain ⟨s1, hc, h⟩ := h
  refine x_csn hP 9 [vR (some (o + 5)), vI 1000000000] [] dX3_readArrivals_6 rfl ml_RX3_121 sm_X5_fillRow it_RX5 pp_X5_fillRow bd_X5_fillRow rfl rfl ⟨Nat.le_refl _, Nat.le_refl _⟩ (by simp [pC]) hc ?_
  refine x_iconst hP 10 dX3_readArrivals_9 rfl ?_
  refine x_istoren hP 11 2 [(0, vR (some o)), (1, vR (some a)), (2, vI 0)] dX3_readArrivals_10 rfl rfl (by decide) rfl rfl ?_
  exact h
theorem k_X3_readArrivals_11 {d : Nat} {Q : pQ} {P : pP} {g : pG} {σ : pM} (hP : Clo (pCall d) yX3_readArrivals cX3_readArrivals none 6 0 0 Q P) (o : Nat) (a : Nat) (x2 : Int) (hg : gPl g o) (ha : gWl g a) (h : iR x2 ∧ iR (σ a 7) ∧ ((σ a 7) ≤ x2 → Q [] g σ) ∧ (¬ ((σ a 7) ≤ x2) → (0 ≤ x2 ∧ x2 < 9) ∧ ∃ (v1 : Int), Ca d yX4_broughtBy [vR (some a), vI (σ (a + 4) (Int.toNat x2))] g σ [vI v1] g σ ∧ P 36 [(0, vR (some o)), (1, vR (some a)), (2, vI x2), (3, vI (σ (a + 4) (Int.toNat x2))), (4, vI v1), (5, vI 0)] [] g σ 0 0)) : P 11 [(0, vR (some o)), (1, vR (some a)), (2, vI x2)] [] g σ 0 0 := by
  refine x_iloadn hP 12 2 dX3_readArrivals_11 rfl rfl mm2 ?_
  refine x_aloadn hP 13 1 dX3_readArrivals_12 rfl rfl mm1 ?_
  refine x_geti hP 16 dX3_readArrivals_13 rfl fl_RX3_125 ha.o (by decide) rfl ?_
  obtain ⟨hs1, hs2, h⟩ := h
  refine x_icmp hP 19 83 ((σ a 7) ≤ x2) dX3_readArrivals_16 rfl rfl hs1 hs2 rfl (fun hbr => ?_) (fun hbr => ?_)
  · replace h := h.1 hbr
    exact x_vret hP dX3_readArrivals_83 ⟨Nat.le_refl _, Nat.le_refl _⟩ h
  · replace h := h.2 hbr
    refine x_aloadn hP 20 1 dX3_readArrivals_19 rfl rfl mm1 ?_
    refine x_getr hP 23 (a + 4) dX3_readArrivals_20 rfl fl_RX3_128 ha.o (by decide) rfl ha.r4 ?_
    refine x_iloadn hP 24 2 dX3_readArrivals_23 rfl rfl mm2 ?_
    obtain ⟨hs, h⟩ := h
    refine x_iald hP 25 dX3_readArrivals_24 rfl ha.a4 (by decide) hs ?_
    refine x_istoren hP 26 3 [(0, vR (some o)), (1, vR (some a)), (2, vI x2), (3, vI (σ (a + 4) (Int.toNat x2)))] dX3_readArrivals_25 rfl rfl (by decide) rfl rfl ?_
    refine x_aloadn hP 27 1 dX3_readArrivals_26 rfl rfl mm1 ?_
    refine x_iloadn hP 28 3 dX3_readArrivals_27 rfl rfl mm3 ?_
    obtain ⟨v1, hc, h⟩ := h
    refine x_cv hP 31 [vI (σ (a + 4) (Int.toNat x2))] [] dX3_readArrivals_28 rfl ha.o (by decide) rfl ml_RX3_131 im_X4_broughtBy se_X4_broughtBy it_RX4 pp_X4_broughtBy bd_X4_broughtBy rfl rfl ⟨Nat.le_refl _, Nat.le_refl _⟩ (by simp [pC]) hc ?_
    refine x_istore hP 33 [(0, vR (some o)), (1, vR (some a)), (2, vI x2), (3, vI (σ (a + 4) (Int.toNat x2))), (4, vI v1)] dX3_readArrivals_31 rfl (by decide) rfl rfl ?_
    refine x_iconst hP 34 dX3_readArrivals_33 rfl ?_
    refine x_istore hP 36 [(0, vR (some o)), (1, vR (some a)), (2, vI x2), (3, vI (σ (a + 4) (Int.toNat x2))), (4, vI v1), (5, vI 0)] dX3_readArrivals_34 rfl (by decide) rfl rfl ?_
    exact h
theorem k_X3_readArrivals_36 {d : Nat} {Q : pQ} {P : pP} {g : pG} {σ : pM} (hP : Clo (pCall d) yX3_readArrivals cX3_readArrivals none 6 0 0 Q P) (o : Nat) (a : Nat) (x2 : Int) (x3 : Int) (x4 : Int) (x5 : Int) (hg : gPl g o) (ha : gWl g a) (h : iR x5 ∧ iR x4 ∧ (x4 < x5 → P 11 [(0, vR (some o)), (1, vR (some a)), (2, vI (x2 + 1))] [] g σ 0 0) ∧ (¬ (x4 < x5) → iR x5 ∧ (28 ≤ x5 → P 11 [(0, vR (some o)), (1, vR (some a)), (2, vI (x2 + 1))] [] g σ 0 0) ∧ (¬ (28 ≤ x5) → (0 ≤ x5 ∧ x5 < 28) ∧ ∃ (v1 : Int), Ca d yJ9_min_7cf53 [vI (σ (o + 5) (Int.toNat x5)), vI x3] g σ [vI v1] g σ ∧ (0 ≤ x5 ∧ x5 < 28) ∧ P 36 [(0, vR (some o)), (1, vR (some a)), (2, vI x2), (3, vI x3), (4, vI x4), (5, vI (x5 + 1))] [] g (up2 σ (o + 5) (Int.toNat x5) v1) 0 0))) : P 36 [(0, vR (some o)), (1, vR (some a)), (2, vI x2), (3, vI x3), (4, vI x4), (5, vI x5)] [] g σ 0 0 := by
  refine x_iload hP 38 dX3_readArrivals_36 rfl mm5 ?_
  refine x_iload hP 40 dX3_readArrivals_38 rfl mm4 ?_
  obtain ⟨hs1, hs2, h⟩ := h
  refine x_icmp hP 43 77 (x4 < x5) dX3_readArrivals_40 rfl rfl hs1 hs2 rfl (fun hbr => ?_) (fun hbr => ?_)
  · replace h := h.1 hbr
    refine x_iinc hP 80 [(0, vR (some o)), (1, vR (some a)), (2, vI (x2 + 1)), (3, vI x3), (4, vI x4), (5, vI x5)] dX3_readArrivals_77 rfl mm2 (by decide) rfl rfl ?_
    refine x_goto hP 11 dX3_readArrivals_80 rfl ?_
    exact x_sub hP [0, 1, 2] rfl h
  · replace h := h.2 hbr
    refine x_iload hP 45 dX3_readArrivals_43 rfl mm5 ?_
    refine x_aloadn hP 46 0 dX3_readArrivals_45 rfl rfl mm0 ?_
    refine x_getr hP 49 (o + 5) dX3_readArrivals_46 rfl fl_RX3_24 hg.o (by decide) rfl hg.r5 ?_
    refine x_alen hP 50 dX3_readArrivals_49 rfl hg.a5 (by simp [pArr]) ?_
    obtain ⟨hs1, h⟩ := h
    refine x_icmp hP 53 77 (28 ≤ x5) dX3_readArrivals_50 rfl rfl hs1 (by decide) rfl (fun hbr => ?_) (fun hbr => ?_)
    · replace h := h.1 hbr
      refine x_iinc hP 80 [(0, vR (some o)), (1, vR (some a)), (2, vI (x2 + 1)), (3, vI x3), (4, vI x4), (5, vI x5)] dX3_readArrivals_77 rfl mm2 (by decide) rfl rfl ?_
      refine x_goto hP 11 dX3_readArrivals_80 rfl ?_
      exact x_sub hP [0, 1, 2] rfl h
    · replace h := h.2 hbr
      refine x_aloadn hP 54 0 dX3_readArrivals_53 rfl rfl mm0 ?_
      refine x_getr hP 57 (o + 5) dX3_readArrivals_54 rfl fl_RX3_24 hg.o (by decide) rfl hg.r5 ?_
      refine x_iload hP 59 dX3_readArrivals_57 rfl mm5 ?_
      refine x_aloadn hP 60 0 dX3_readArrivals_59 rfl rfl mm0 ?_
      refine x_getr hP 63 (o + 5) dX3_readArrivals_60 rfl fl_RX3_24 hg.o (by decide) rfl hg.r5 ?_
      refine x_iload hP 65 dX3_readArrivals_63 rfl mm5 ?_
      obtain ⟨hs, h⟩ := h
      refine x_iald hP 66 dX3_readArrivals_65 rfl hg.a5 (by decide) hs ?_
      refine x_iloadn hP 67 3 dX3_readArrivals_66 rfl rfl mm3 ?_
      obtain ⟨v1, hc, h⟩ := h
      refine x_cs hP 70 [vI (σ (o + 5) (Int.toNat x5)), vI x3] [vI x5, vR (some (o + 5))] dX3_readArrivals_67 rfl ml_RX3_115 sm_J9_min_7cf53 it_RJ9 pp_J9_min_7cf53 bd_J9_min_7cf53 rfl rfl ⟨Nat.le_refl _, Nat.le_refl _⟩ (by simp [pC]) hc ?_
      obtain ⟨hs1, h⟩ := h
      refine x_iast hP 71 dX3_readArrivals_70 rfl hg.a5 (by decide) hs1 ?_
      refine x_iinc hP 74 [(0, vR (some o)), (1, vR (some a)), (2, vI x2), (3, vI x3), (4, vI x4), (5, vI (x5 + 1))] dX3_readArrivals_71 rfl mm5 (by decide) rfl rfl ?_
      refine x_goto hP 36 dX3_readArrivals_74 rfl ?_
      exact h
theorem k_X3_arrivalOf_0 {d : Nat} {Q : pQ} {P : pP} {g : pG} {σ : pM} (hP : Clo (pCall d) yX3_arrivalOf cX3_arrivalOf (some .int) 2 0 0 Q P) (o : Nat) (a : Int) (hg : gPl g o) (h : iR a ∧ (a < 0 → Q [vI 1000000000] g σ) ∧ (¬ (a < 0) → iR a ∧ (a < 28 → (0 ≤ a ∧ a < 28) ∧ Q [vI (σ (o + 5) (Int.toNat a))] g σ) ∧ (¬ (a < 28) → Q [vI 1000000000] g σ))) : P 0 [(0, vR (some o)), (1, vI a)] [] g σ 0 0 := by
  refine x_iloadn hP 1 1 dX3_arrivalOf_0 rfl rfl mm1 ?_
  obtain ⟨hs1, h⟩ := h
  refine x_ifc hP 4 13 (a < 0) dX3_arrivalOf_1 rfl rfl hs1 rfl (fun hbr => ?_) (fun hbr => ?_)
  · replace h := h.1 hbr
    refine x_ldc hP 15 dX3_arrivalOf_13 rfl kc_RX3_55 ?_
    refine x_goto hP 24 dX3_arrivalOf_15 rfl ?_
    exact x_iret hP dX3_arrivalOf_24 ⟨Nat.le_refl _, Nat.le_refl _⟩ h
  · replace h := h.2 hbr
    refine x_iloadn hP 5 1 dX3_arrivalOf_4 rfl rfl mm1 ?_
    refine x_aloadn hP 6 0 dX3_arrivalOf_5 rfl rfl mm0 ?_
    refine x_getr hP 9 (o + 5) dX3_arrivalOf_6 rfl fl_RX3_24 hg.o (by decide) rfl hg.r5 ?_
    refine x_alen hP 10 dX3_arrivalOf_9 rfl hg.a5 (by simp [pArr]) ?_
    obtain ⟨hs1, h⟩ := h
    refine x_icmp hP 13 18 (a < 28) dX3_arrivalOf_10 rfl rfl hs1 (by decide) rfl (fun hbr => ?_) (fun hbr => ?_)
    · replace h := h.1 hbr
      refine x_aloadn hP 19 0 dX3_arrivalOf_18 rfl rfl mm0 ?_
      refine x_getr hP 22 (o + 5) dX3_arrivalOf_19 rfl fl_RX3_24 hg.o (by decide) rfl hg.r5 ?_
      refine x_iloadn hP 23 1 dX3_arrivalOf_22 rfl rfl mm1 ?_
      obtain ⟨hs, h⟩ := h
      refine x_iald hP 24 dX3_arrivalOf_23 rfl hg.a5 (by decide) hs ?_
      exact x_iret hP dX3_arrivalOf_24 ⟨Nat.le_refl _, Nat.le_refl _⟩ h
    · replace h := h.2 hbr
      refine x_ldc hP 15 dX3_arrivalOf_13 rfl kc_RX3_55 ?_
      refine x_goto hP 24 dX3_arrivalOf_15 rfl ?_
      exact x_iret hP dX3_arrivalOf_24 ⟨Nat.le_refl _, Nat.le_refl _⟩ h
theorem k_X3_harmCovered_0 {d : Nat} {Q : pQ} {P : pP} {g : pG} {σ : pM} (hP : Clo (pCall d) yX3_harmCovered cX3_harmCovered (some .int) 3 0 0 Q P) (o : Nat) (hg : gPl g o) (h : P 4 [(0, vR (some o)), (1, vI 0), (2, vI 0)] [] g σ 0 0) : P 0 [(0, vR (some o))] [] g σ 0 0 := by
  refine x_iconst hP 1 dX3_harmCovered_0 rfl ?_
  refine x_istoren hP 2 1 [(0, vR (some o)), (1, vI 0)] dX3_harmCovered_1 rfl rfl (by decide) rfl rfl ?_
  refine x_iconst hP 3 dX3_harmCovered_2 rfl ?_
  refine x_istoren hP 4 2 [(0, vR (some o)), (1, vI 0), (2, vI 0)] dX3_harmCovered_3 rfl rfl (by decide) rfl rfl ?_
  exact h
theorem k_X3_harmCovered_4 {d : Nat} {Q : pQ} {P : pP} {g : pG} {σ : pM} (hP : Clo (pCall d) yX3_harmCovered cX3_harmCovered (some .int) 3 0 0 Q P) (o : Nat) (x1 : Int) (x2 : Int) (hg : gPl g o) (h : iR x2 ∧ iR (σ o 6) ∧ ((σ o 6) ≤ x2 → Q [vI x1] g σ) ∧ (¬ ((σ o 6) ≤ x2) → (0 ≤ x2 ∧ x2 < 9) ∧ iR (σ (o + 2) (Int.toNat x2)) ∧ ((σ (o + 2) (Int.toNat x2)) = 1000000000 → P 4 [(0, vR (some o)), (1, vI x1), (2, vI (x2 + 1))] [] g σ 0 0) ∧ (¬ ((σ (o + 2) (Int.toNat x2)) = 1000000000) → (0 ≤ x2 ∧ x2 < 9) ∧ (0 ≤ x2 ∧ x2 < 9) ∧ ∃ (v1 : Int), Ca d yX3_harmCovering [vR (some o), vI x2, vI ((σ (o + 2) (Int.toNat x2)) - (σ (o + 1) (Int.toNat x2)))] g σ [vI v1] g σ ∧ P 4 [(0, vR (some o)), (1, vI (x1 + v1)), (2, vI (x2 + 1))] [] g σ 0 0))) : P 4 [(0, vR (some o)), (1, vI x1), (2, vI x2)] [] g σ 0 0 := by
  refine x_iloadn hP 5 2 dX3_harmCovered_4 rfl rfl mm2 ?_
  refine x_aloadn hP 6 0 dX3_harmCovered_5 rfl rfl mm0 ?_
  refine x_geti hP 9 dX3_harmCovered_6 rfl fl_RX3_93 hg.o (by decide) rfl ?_
  obtain ⟨hs1, hs2, h⟩ := h
  refine x_icmp hP 12 50 ((σ o 6) ≤ x2) dX3_harmCovered_9 rfl rfl hs1 hs2 rfl (fun hbr => ?_) (fun hbr => ?_)
  · replace h := h.1 hbr
    refine x_iloadn hP 51 1 dX3_harmCovered_50 rfl rfl mm1 ?_
    exact x_iret hP dX3_harmCovered_51 ⟨Nat.le_refl _, Nat.le_refl _⟩ h
  · replace h := h.2 hbr
    refine x_aloadn hP 13 0 dX3_harmCovered_12 rfl rfl mm0 ?_
    refine x_getr hP 16 (o + 2) dX3_harmCovered_13 rfl fl_RX3_15 hg.o (by decide) rfl hg.r2 ?_
    refine x_iloadn hP 17 2 dX3_harmCovered_16 rfl rfl mm2 ?_
    obtain ⟨hs, h⟩ := h
    refine x_iald hP 18 dX3_harmCovered_17 rfl hg.a2 (by decide) hs ?_
    refine x_ldc hP 20 dX3_harmCovered_18 rfl kc_RX3_55 ?_
    obtain ⟨hs1, h⟩ := h
    refine x_icmp hP 23 44 ((σ (o + 2) (Int.toNat x2)) = 1000000000) dX3_harmCovered_20 rfl rfl hs1 (by decide) rfl (fun hbr => ?_) (fun hbr => ?_)
    · replace h := h.1 hbr
      refine x_iinc hP 47 [(0, vR (some o)), (1, vI x1), (2, vI (x2 + 1))] dX3_harmCovered_44 rfl mm2 (by decide) rfl rfl ?_
      refine x_goto hP 4 dX3_harmCovered_47 rfl ?_
      exact h
    · replace h := h.2 hbr
      refine x_iloadn hP 24 1 dX3_harmCovered_23 rfl rfl mm1 ?_
      refine x_aloadn hP 25 0 dX3_harmCovered_24 rfl rfl mm0 ?_
      refine x_iloadn hP 26 2 dX3_harmCovered_25 rfl rfl mm2 ?_
      refine x_aloadn hP 27 0 dX3_harmCovered_26 rfl rfl mm0 ?_
      refine x_getr hP 30 (o + 2) dX3_harmCovered_27 rfl fl_RX3_15 hg.o (by decide) rfl hg.r2 ?_
      refine x_iloadn hP 31 2 dX3_harmCovered_30 rfl rfl mm2 ?_
      obtain ⟨hs, h⟩ := h
      refine x_iald hP 32 dX3_harmCovered_31 rfl hg.a2 (by decide) hs ?_
      refine x_aloadn hP 33 0 dX3_harmCovered_32 rfl rfl mm0 ?_
      refine x_getr hP 36 (o + 1) dX3_harmCovered_33 rfl fl_RX3_9 hg.o (by decide) rfl hg.r1 ?_
      refine x_iloadn hP 37 2 dX3_harmCovered_36 rfl rfl mm2 ?_
      obtain ⟨hs, h⟩ := h
      refine x_iald hP 38 dX3_harmCovered_37 rfl hg.a1 (by decide) hs ?_
      refine x_isub hP 39 dX3_harmCovered_38 rfl ?_
      obtain ⟨v1, hc, h⟩ := h
      refine x_cv hP 42 [vI x2, vI ((σ (o + 2) (Int.toNat x2)) - (σ (o + 1) (Int.toNat x2)))] [vI x1] dX3_harmCovered_39 rfl hg.o (by decide) rfl ml_RX3_134 im_X3_harmCovering se_X3_harmCovering it_RX3 pp_X3_harmCovering bd_X3_harmCovering rfl rfl ⟨Nat.le_refl _, Nat.le_refl _⟩ (by simp [pC]) hc ?_
      refine x_iadd hP 43 dX3_harmCovered_42 rfl ?_
      refine x_istoren hP 44 1 [(0, vR (some o)), (1, vI (x1 + v1)), (2, vI x2)] dX3_harmCovered_43 rfl rfl (by decide) rfl rfl ?_
      refine x_iinc hP 47 [(0, vR (some o)), (1, vI (x1 + v1)), (2, vI (x2 + 1))] dX3_harmCovered_44 rfl mm2 (by decide) rfl rfl ?_
      refine x_goto hP 4 dX3_harmCovered_47 rfl ?_
      exact h
theorem k_X3_extend_0 {d : Nat} {Q : pQ} {P : pP} {g : pG} {σ : pM} (hP : Clo (pCall d) yX3_extend cX3_extend none 10 0 0 Q P) (o : Nat) (a : Int) (b : Int) (c : Int) (e : Int) (hg : gPl g o) (h : iR a ∧ iR (σ o 1) ∧ ((σ o 1) ≤ a → ∃ (s1 : pM), Ca d yX3_take [vR (some o), vI b, vI c] g σ [] g s1 ∧ Q [] g s1) ∧ (¬ ((σ o 1) ≤ a) → iR a ∧ (a < 9 → P 27 [(0, vR (some o)), (1, vI a), (2, vI b), (3, vI c), (4, vI e), (5, vI 0)] [] g σ 0 0) ∧ (¬ (a < 9) → ∃ (s2 : pM), Ca d yX3_take [vR (some o), vI b, vI c] g σ [] g s2 ∧ Q [] g s2))) : P 0 [(0, vR (some o)), (1, vI a), (2, vI b), (3, vI c), (4, vI e)] [] g σ 0 0 := by
  refine x_iloadn hP 1 1 dX3_extend_0 rfl rfl mm1 ?_
  refine x_aloadn hP 2 0 dX3_extend_1 rfl rfl mm0 ?_
  refine x_geti hP 5 dX3_extend_2 rfl fl_RX3_42 hg.o (by decide) rfl ?_
  obtain ⟨hs1, hs2, h⟩ := h
  refine x_icmp hP 8 17 ((σ o 1) ≤ a) dX3_extend_5 rfl rfl hs1 hs2 rfl (fun hbr => ?_) (fun hbr => ?_)
  · replace h := h.1 hbr
    refine x_aloadn hP 18 0 dX3_extend_17 rfl rfl mm0 ?_
    refine x_iloadn hP 19 2 dX3_extend_18 rfl rfl mm2 ?_
    refine x_iloadn hP 20 3 dX3_extend_19 rfl rfl mm3 ?_
    obtain ⟨s1, hc, h⟩ := h
    refine x_cv hP 23 [vI b, vI c] [] dX3_extend_20 rfl hg.o (by decide) rfl ml_RX3_137 im_X3_take se_X3_take it_RX3 pp_X3_take bd_X3_take rfl rfl ⟨Nat.le_refl _, Nat.le_refl _⟩ (by simp [pC]) hc ?_
    exact x_vret hP dX3_extend_23 ⟨Nat.le_refl _, Nat.le_refl _⟩ h
  · replace h := h.2 hbr
    refine x_iloadn hP 9 1 dX3_extend_8 rfl rfl mm1 ?_
    refine x_aloadn hP 10 0 dX3_extend_9 rfl rfl mm0 ?_
    refine x_getr hP 13 (o + 3) dX3_extend_10 rfl fl_RX3_18 hg.o (by decide) rfl hg.r3 ?_
    refine x_alen hP 14 dX3_extend_13 rfl hg.a3 (by simp [pArr]) ?_
    obtain ⟨hs1, h⟩ := h
    refine x_icmp hP 17 24 (a < 9) dX3_extend_14 rfl rfl hs1 (by decide) rfl (fun hbr => ?_) (fun hbr => ?_)
    · replace h := h.1 hbr
      refine x_iconst hP 25 dX3_extend_24 rfl ?_
      refine x_istore hP 27 [(0, vR (some o)), (1, vI a), (2, vI b), (3, vI c), (4, vI e), (5, vI 0)] dX3_extend_25 rfl (by decide) rfl rfl ?_
      exact h
    · replace h := h.2 hbr
      refine x_aloadn hP 18 0 dX3_extend_17 rfl rfl mm0 ?_
      refine x_iloadn hP 19 2 dX3_extend_18 rfl rfl mm2 ?_
      refine x_iloadn hP 20 3 dX3_extend_19 rfl rfl mm3 ?_
      obtain ⟨s2, hc, h⟩ := h
      refine x_cv hP 23 [vI b, vI c] [] dX3_extend_20 rfl hg.o (by decide) rfl ml_RX3_137 im_X3_take se_X3_take it_RX3 pp_X3_take bd_X3_take rfl rfl ⟨Nat.le_refl _, Nat.le_refl _⟩ (by simp [pC]) hc ?_
      exact x_vret hP dX3_extend_23 ⟨Nat.le_refl _, Nat.le_refl _⟩ h
theorem k_X3_extend_27 {d : Nat} {Q : pQ} {P : pP} {g : pG} {σ : pM} (hP : Clo (pCall d) yX3_extend cX3_extend none 10 0 0 Q P) (o : Nat) (x1 : Int) (x2 : Int) (x3 : Int) (x4 : Int) (x5 : Int) (hg : gPl g o) (h : iR x5 ∧ iR (σ o 6) ∧ ((σ o 6) ≤ x5 → Q [] g σ) ∧ (¬ ((σ o 6) ≤ x5) → ∃ (v1 : Int), Ca d yX3_isNext [vR (some o), vI x5] g σ [vI v1] g σ ∧ iR v1 ∧ (¬ v1 = 0 → (0 ≤ x5 ∧ x5 < 9) ∧ ∃ (v2 : Int), Ca d yX3_arrivalOf [vR (some o), vI (x4 + (σ (o + 1) (Int.toNat x5)))] g σ [vI v2] g σ ∧ ∃ (v3 : Int), Ca d yJ9_max_7cf53 [vI x2, vI v2] g σ [vI v3] g σ ∧ ∃ (v4 : Int), Ca d yX3_harmCovering [vR (some o), vI x5, vI v3] g σ [vI v4] g σ ∧ (0 ≤ x5 ∧ x5 < 9) ∧ (0 ≤ x1 ∧ x1 < 9) ∧ (0 ≤ x5 ∧ x5 < 9) ∧ ∃ (v5 : Int), Ca d yX3_harmToCome [vR (some o), vI (v3 + (σ (o + 1) (Int.toNat x5))), vI (x4 + (σ (o + 1) (Int.toNat x5)))] g (up2 (up2 σ (o + 3) (Int.toNat x1) x5) (o + 2) (Int.toNat x5) (v3 + (σ (o + 1) (Int.toNat x5)))) [vI v5] g (up2 (up2 σ (o + 3) (Int.toNat x1) x5) (o + 2) (Int.toNat x5) (v3 + (σ (o + 1) (Int.toNat x5)))) ∧ ∃ (v6 : Int), Ca d yX3_leastEnd [vR (some o), vI (v3 + (σ (o + 1) (Int.toNat x5))), vI (x4 + (σ (o + 1) (Int.toNat x5)))] g (up2 (up2 σ (o + 3) (Int.toNat x1) x5) (o + 2) (Int.toNat x5) (v3 + (σ (o + 1) (Int.toNat x5)))) [vI v6] g (up2 (up2 σ (o + 3) (Int.toNat x1) x5) (o + 2) (Int.toNat x5) (v3 + (σ (o + 1) (Int.toNat x5)))) ∧ ∃ (v7 : Int), Ca d yX3_mayBeBetter [vR (some o), vI ((x3 + v4) + v5), vI v6] g (up2 (up2 σ (o + 3) (Int.toNat x1) x5) (o + 2) (Int.toNat x5) (v3 + (σ (o + 1) (Int.toNat x5)))) [vI v7] g (up2 (up2 σ (o + 3) (Int.toNat x1) x5) (o + 2) (Int.toNat x5) (v3 + (σ (o + 1) (Int.toNat x5)))) ∧ iR v7 ∧ (v7 = 0 → (0 ≤ x5 ∧ x5 < 9) ∧ P 27 [(0, vR (some o)), (1, vI x1), (2, vI x2), (3, vI x3), (4, vI x4), (5, vI (x5 + 1))] [] g (up2 (up2 (up2 σ (o + 3) (Int.toNat x1) x5) (o + 2) (Int.toNat x5) (v3 + (σ (o + 1) (Int.toNat x5)))) (o + 2) (Int.toNat x5) 1000000000) 0 0) ∧ (¬ (v7 = 0) → ∃ (s8 : pM), Ca d yX3_extend [vR (some o), vI (x1 + 1), vI (v3 + (σ (o + 1) (Int.toNat x5))), vI (x3 + v4), vI (x4 + (σ (o + 1) (Int.toNat x5)))] g (up2 (up2 σ (o + 3) (Int.toNat x1) x5) (o + 2) (Int.toNat x5) (v3 + (σ (o + 1) (Int.toNat x5)))) [] g s8 ∧ (0 ≤ x5 ∧ x5 < 9) ∧ P 27 [(0, vR (some o)), (1, vI x1), (2, vI x2), (3, vI x3), (4, vI x4), (5, vI (x5 + 1))] [] g (up2 s8 (o + 2) (Int.toNat x5) 1000000000) 0 0)) ∧ (¬ (¬ v1 = 0) → P 27 [(0, vR (some o)), (1, vI x1), (2, vI x2), (3, vI x3), (4, vI x4), (5, vI (x5 + 1))] [] g σ 0 0))) : P 27 [(0, vR (some o)), (1, vI x1), (2, vI x2), (3, vI x3), (4, vI x4), (5, vI x5)] [] g σ 0 0 := by
  refine x_iload hP 29 dX3_extend_27 rfl mm5 ?_
  refine x_aloadn hP 30 0 dX3_extend_29 rfl rfl mm0 ?_
  refine x_geti hP 33 dX3_extend_30 rfl fl_RX3_93 hg.o (by decide) rfl ?_
  obtain ⟨hs1, hs2, h⟩ := h
  refine x_icmp hP 36 167 ((σ o 6) ≤ x5) dX3_extend_33 rfl rfl hs1 hs2 rfl (fun hbr => ?_) (fun hbr => ?_)
  · replace h := h.1 hbr
    exact x_vret hP dX3_extend_167 ⟨Nat.le_refl _, Nat.le_refl _⟩ h
  · replace h := h.2 hbr
    refine x_aloadn hP 37 0 dX3_extend_36 rfl rfl mm0 ?_
    refine x_iload hP 39 dX3_extend_37 rfl mm5 ?_
    obtain ⟨v1, hc, h⟩ := h
    refine x_cv hP 42 [vI x5] [] dX3_extend_39 rfl hg.o (by decide) rfl ml_RX3_141 im_X3_isNext se_X3_isNext it_RX3 pp_X3_isNext bd_X3_isNext rfl rfl ⟨Nat.le_refl _, Nat.le_refl _⟩ (by simp [pC]) hc ?_
    obtain ⟨hs1, h⟩ := h
    refine x_ifc hP 45 48 (¬ v1 = 0) dX3_extend_42 rfl rfl hs1 rfl (fun hbr => ?_) (fun hbr => ?_)
    · replace h := h.1 hbr
      refine x_iload hP 50 dX3_extend_48 rfl mm4 ?_
      refine x_aloadn hP 51 0 dX3_extend_50 rfl rfl mm0 ?_
      refine x_getr hP 54 (o + 1) dX3_extend_51 rfl fl_RX3_9 hg.o (by decide) rfl hg.r1 ?_
      refine x_iload hP 56 dX3_extend_54 rfl mm5 ?_
      obtain ⟨hs, h⟩ := h
      refine x_iald hP 57 dX3_extend_56 rfl hg.a1 (by decide) hs ?_
      refine x_iadd hP 58 dX3_extend_57 rfl ?_
      refine x_istore hP 60 [(0, vR (some o)), (1, vI x1), (2, vI x2), (3, vI x3), (4, vI x4), (5, vI x5), (6, vI (x4 + (σ (o + 1) (Int.toNat x5))))] dX3_extend_58 rfl (by decide) rfl rfl ?_
      refine x_iloadn hP 61 2 dX3_extend_60 rfl rfl mm2 ?_
      refine x_aloadn hP 62 0 dX3_extend_61 rfl rfl mm0 ?_
      refine x_iload hP 64 dX3_extend_62 rfl mm6 ?_
      obtain ⟨v2, hc, h⟩ := h
      refine x_cv hP 67 [vI (x4 + (σ (o + 1) (Int.toNat x5)))] [vI x2] dX3_extend_64 rfl hg.o (by decide) rfl ml_RX3_62 im_X3_arrivalOf se_X3_arrivalOf it_RX3 pp_X3_arrivalOf bd_X3_arrivalOf rfl rfl ⟨Nat.le_refl _, Nat.le_refl _⟩ (by simp [pC]) hc ?_
      obtain ⟨v3, hc, h⟩ := h
      refine x_cs hP 70 [vI x2, vI v2] [] dX3_extend_67 rfl ml_RX3_144 sm_J9_max_7cf53 it_RJ9 pp_J9_max_7cf53 bd_J9_max_7cf53 rfl rfl ⟨Nat.le_refl _, Nat.le_refl _⟩ (by simp [pC]) hc ?_
      refine x_istore hP 72 [(0, vR (some o)), (1, vI x1), (2, vI x2), (3, vI x3), (4, vI x4), (5, vI x5), (6, vI (x4 + (σ (o + 1) (Int.toNat x5)))), (7, vI v3)] dX3_extend_70 rfl (by decide) rfl rfl ?_
      refine x_iloadn hP 73 3 dX3_extend_72 rfl rfl mm3 ?_
      refine x_aloadn hP 74 0 dX3_extend_73 rfl rfl mm0 ?_
      refine x_iload hP 76 dX3_extend_74 rfl mm5 ?_
      refine x_iload hP 78 dX3_extend_76 rfl mm7 ?_
      obtain ⟨v4, hc, h⟩ := h
      refine x_cv hP 81 [vI x5, vI v3] [vI x3] dX3_extend_78 rfl hg.o (by decide) rfl ml_RX3_134 im_X3_harmCovering se_X3_harmCovering it_RX3 pp_X3_harmCovering bd_X3_harmCovering rfl rfl ⟨Nat.le_refl _, Nat.le_refl _⟩ (by simp [pC]) hc ?_
      refine x_iadd hP 82 dX3_extend_81 rfl ?_
      refine x_istore hP 84 [(0, vR (some o)), (1, vI x1), (2, vI x2), (3, vI x3), (4, vI x4), (5, vI x5), (6, vI (x4 + (σ (o + 1) (Int.toNat x5)))), (7, vI v3), (8, vI (x3 + v4))] dX3_extend_82 rfl (by decide) rfl rfl ?_
      refine x_iload hP 86 dX3_extend_84 rfl mm7 ?_
      refine x_aloadn hP 87 0 dX3_extend_86 rfl rfl mm0 ?_
      refine x_getr hP 90 (o + 1) dX3_extend_87 rfl fl_RX3_9 hg.o (by decide) rfl hg.r1 ?_
      refine x_iload hP 92 dX3_extend_90 rfl mm5 ?_
      obtain ⟨hs, h⟩ := h
      refine x_iald hP 93 dX3_extend_92 rfl hg.a1 (by decide) hs ?_
      refine x_iadd hP 94 dX3_extend_93 rfl ?_
      refine x_istore hP 96 [(0, vR (some o)), (1, vI x1), (2, vI x2), (3, vI x3), (4, vI x4), (5, vI x5), (6, vI (x4 + (σ (o + 1) (Int.toNat x5)))), (7, vI v3), (8, vI (x3 + v4)), (9, vI (v3 + (σ (o + 1) (Int.toNat x5))))] dX3_extend_94 rfl (by decide) rfl rfl ?_
      refine x_aloadn hP 97 0 dX3_extend_96 rfl rfl mm0 ?_
      refine x_getr hP 100 (o + 3) dX3_extend_97 rfl fl_RX3_18 hg.o (by decide) rfl hg.r3 ?_
      refine x_iloadn hP 101 1 dX3_extend_100 rfl rfl mm1 ?_
      refine x_iload hP 103 dX3_extend_101 rfl mm5 ?_
      obtain ⟨hs1, h⟩ := h
      refine x_iast hP 104 dX3_extend_103 rfl hg.a3 (by decide) hs1 ?_
      refine x_aloadn hP 105 0 dX3_extend_104 rfl rfl mm0 ?_
      refine x_getr hP 108 (o + 2) dX3_extend_105 rfl fl_RX3_15 hg.o (by decide) rfl hg.r2 ?_
      refine x_iload hP 110 dX3_extend_108 rfl mm5 ?_
      refine x_iload hP 112 dX3_extend_110 rfl mm9 ?_
      obtain ⟨hs1, h⟩ := h
      refine x_iast hP 113 dX3_extend_112 rfl hg.a2 (by decide) hs1 ?_
      refine x_aloadn hP 114 0 dX3_extend_113 rfl rfl mm0 ?_
      refine x_iload hP 116 dX3_extend_114 rfl mm8 ?_
      refine x_aloadn hP 117 0 dX3_extend_116 rfl rfl mm0 ?_
      refine x_iload hP 119 dX3_extend_117 rfl mm9 ?_
      refine x_iload hP 121 dX3_extend_119 rfl mm6 ?_
      obtain ⟨v5, hc, h⟩ := h
      refine x_cv hP 124 [vI (v3 + (σ (o + 1) (Int.toNat x5))), vI (x4 + (σ (o + 1) (Int.toNat x5)))] [vI (x3 + v4), vR (some o)] dX3_extend_121 rfl hg.o (by decide) rfl ml_RX3_147 im_X3_harmToCome se_X3_harmToCome it_RX3 pp_X3_harmToCome bd_X3_harmToCome rfl rfl ⟨Nat.le_refl _, Nat.le_refl _⟩ (by simp [pC]) hc ?_
      refine x_iadd hP 125 dX3_extend_124 rfl ?_
      refine x_aloadn hP 126 0 dX3_extend_125 rfl rfl mm0 ?_
      refine x_iload hP 128 dX3_extend_126 rfl mm9 ?_
      refine x_iload hP 130 dX3_extend_128 rfl mm6 ?_
      obtain ⟨v6, hc, h⟩ := h
      refine x_cv hP 133 [vI (v3 + (σ (o + 1) (Int.toNat x5))), vI (x4 + (σ (o + 1) (Int.toNat x5)))] [vI ((x3 + v4) + v5), vR (some o)] dX3_extend_130 rfl hg.o (by decide) rfl ml_RX3_150 im_X3_leastEnd se_X3_leastEnd it_RX3 pp_X3_leastEnd bd_X3_leastEnd rfl rfl ⟨Nat.le_refl _, Nat.le_refl _⟩ (by simp [pC]) hc ?_
      obtain ⟨v7, hc, h⟩ := h
      refine x_cv hP 136 [vI ((x3 + v4) + v5), vI v6] [] dX3_extend_133 rfl hg.o (by decide) rfl ml_RX3_153 im_X3_mayBeBetter se_X3_mayBeBetter it_RX3 pp_X3_mayBeBetter bd_X3_mayBeBetter rfl rfl ⟨Nat.le_refl _, Nat.le_refl _⟩ (by simp [pC]) hc ?_
      obtain ⟨hs1, h⟩ := h
      refine x_ifc hP 139 152 (v7 = 0) dX3_extend_136 rfl rfl hs1 rfl (fun hbr => ?_) (fun hbr => ?_)
      · replace h := h.1 hbr
        refine x_aloadn hP 153 0 dX3_extend_152 rfl rfl mm0 ?_
        refine x_getr hP 156 (o + 2) dX3_extend_153 rfl fl_RX3_15 hg.o (by decide) rfl hg.r2 ?_
        refine x_iload hP 158 dX3_extend_156 rfl mm5 ?_
        refine x_ldc hP 160 dX3_extend_158 rfl kc_RX3_55 ?_
        obtain ⟨hs1, h⟩ := h
        refine x_iast hP 161 dX3_extend_160 rfl hg.a2 (by decide) hs1 ?_
        refine x_iinc hP 164 [(0, vR (some o)), (1, vI x1), (2, vI x2), (3, vI x3), (4, vI x4), (5, vI (x5 + 1)), (6, vI (x4 + (σ (o + 1) (Int.toNat x5)))), (7, vI v3), (8, vI (x3 + v4)), (9, vI (v3 + (σ (o + 1) (Int.toNat x5))))] dX3_extend_161 rfl mm5 (by decide) rfl rfl ?_
        refine x_goto hP 27 dX3_extend_164 rfl ?_
        exact x_sub hP [0, 1, 2, 3, 4, 5] rfl h
      · replace h := h.2 hbr
        refine x_aloadn hP 140 0 dX3_extend_139 rfl rfl mm0 ?_
        refine x_iloadn hP 141 1 dX3_extend_140 rfl rfl mm1 ?_
        refine x_iconst hP 142 dX3_extend_141 rfl ?_
        refine x_iadd hP 143 dX3_extend_142 rfl ?_
        refine x_iload hP 145 dX3_extend_143 rfl mm9 ?_
        refine x_iload hP 147 dX3_extend_145 rfl mm8 ?_
        refine x_iload hP 149 dX3_extend_147 rfl mm6 ?_
        obtain ⟨s8, hc, h⟩ := h
        refine x_cv hP 152 [vI (x1 + 1), vI (v3 + (σ (o + 1) (Int.toNat x5))), vI (x3 + v4), vI (x4 + (σ (o + 1) (Int.toNat x5)))] [] dX3_extend_149 rfl hg.o (by decide) rfl ml_RX3_78 im_X3_extend se_X3_extend it_RX3 pp_X3_extend bd_X3_extend rfl rfl ⟨Nat.le_refl _, Nat.le_refl _⟩ (by simp [pC]) hc ?_
        refine x_aloadn hP 153 0 dX3_extend_152 rfl rfl mm0 ?_
        refine x_getr hP 156 (o + 2) dX3_extend_153 rfl fl_RX3_15 hg.o (by decide) rfl hg.r2 ?_
        refine x_iload hP 158 dX3_extend_156 rfl mm5 ?_
        refine x_ldc hP 160 dX3_extend_158 rfl kc_RX3_55 ?_
        obtain ⟨hs1, h⟩ := h
        refine x_iast hP 161 dX3_extend_160 rfl hg.a2 (by decide) hs1 ?_
        refine x_iinc hP 164 [(0, vR (some o)), (1, vI x1), (2, vI x2), (3, vI x3), (4, vI x4), (5, vI (x5 + 1)), (6, vI (x4 + (σ (o + 1) (Int.toNat x5)))), (7, vI v3), (8, vI (x3 + v4)), (9, vI (v3 + (σ (o + 1) (Int.toNat x5))))] dX3_extend_161 rfl mm5 (by decide) rfl rfl ?_
        refine x_goto hP 27 dX3_extend_164 rfl ?_
        exact x_sub hP [0, 1, 2, 3, 4, 5] rfl h
    · replace h := h.2 hbr
      refine x_goto hP 161 dX3_extend_45 rfl ?_
      refine x_iinc hP 164 [(0, vR (some o)), (1, vI x1), (2, vI x2), (3, vI x3), (4, vI x4), (5, vI (x5 + 1))] dX3_extend_161 rfl mm5 (by decide) rfl rfl ?_
      refine x_goto hP 27 dX3_extend_164 rfl ?_
      exact h
theorem k_X3_isNext_0 {d : Nat} {Q : pQ} {P : pP} {g : pG} {σ : pM} (hP : Clo (pCall d) yX3_isNext cX3_isNext (some .boolean) 2 0 0 Q P) (o : Nat) (a : Int) (hg : gPl g o) (h : (0 ≤ a ∧ a < 9) ∧ iR (σ (o + 2) (Int.toNat a)) ∧ (¬ (σ (o + 2) (Int.toNat a)) = 1000000000 → Q [vI 0] g σ) ∧ (¬ (¬ (σ (o + 2) (Int.toNat a)) = 1000000000) → iR a ∧ iR (σ o 4) ∧ (a < (σ o 4) → Q [vI 1] g σ) ∧ (¬ (a < (σ o 4)) → (0 ≤ (a - (σ o 4)) ∧ (a - (σ o 4)) < 9) ∧ iR (σ (o + 2) (Int.toNat (a - (σ o 4)))) ∧ ((σ (o + 2) (Int.toNat (a - (σ o 4)))) = 1000000000 → Q [vI 0] g σ) ∧ (¬ ((σ (o + 2) (Int.toNat (a - (σ o 4)))) = 1000000000) → Q [vI 1] g σ)))) : P 0 [(0, vR (some o)), (1, vI a)] [] g σ 0 0 := by
  refine x_aloadn hP 1 0 dX3_isNext_0 rfl rfl mm0 ?_
  refine x_getr hP 4 (o + 2) dX3_isNext_1 rfl fl_RX3_15 hg.o (by decide) rfl hg.r2 ?_
  refine x_iloadn hP 5 1 dX3_isNext_4 rfl rfl mm1 ?_
  obtain ⟨hs, h⟩ := h
  refine x_iald hP 6 dX3_isNext_5 rfl hg.a2 (by decide) hs ?_
  refine x_ldc hP 8 dX3_isNext_6 rfl kc_RX3_55 ?_
  obtain ⟨hs1, h⟩ := h
  refine x_icmp hP 11 39 (¬ (σ (o + 2) (Int.toNat a)) = 1000000000) dX3_isNext_8 rfl rfl hs1 (by decide) rfl (fun hbr => ?_) (fun hbr => ?_)
  · replace h := h.1 hbr
    refine x_iconst hP 40 dX3_isNext_39 rfl ?_
    exact x_zret hP dX3_isNext_40 ⟨Nat.le_refl _, Nat.le_refl _⟩ (by decide) h
  · replace h := h.2 hbr
    refine x_iloadn hP 12 1 dX3_isNext_11 rfl rfl mm1 ?_
    refine x_aloadn hP 13 0 dX3_isNext_12 rfl rfl mm0 ?_
    refine x_geti hP 16 dX3_isNext_13 rfl fl_RX3_85 hg.o (by decide) rfl ?_
    obtain ⟨hs1, hs2, h⟩ := h
    refine x_icmp hP 19 35 (a < (σ o 4)) dX3_isNext_16 rfl rfl hs1 hs2 rfl (fun hbr => ?_) (fun hbr => ?_)
    · replace h := h.1 hbr
      refine x_iconst hP 36 dX3_isNext_35 rfl ?_
      refine x_goto hP 40 dX3_isNext_36 rfl ?_
      exact x_zret hP dX3_isNext_40 ⟨Nat.le_refl _, Nat.le_refl _⟩ (by decide) h
    · replace h := h.2 hbr
      refine x_aloadn hP 20 0 dX3_isNext_19 rfl rfl mm0 ?_
      refine x_getr hP 23 (o + 2) dX3_isNext_20 rfl fl_RX3_15 hg.o (by decide) rfl hg.r2 ?_
      refine x_iloadn hP 24 1 dX3_isNext_23 rfl rfl mm1 ?_
      refine x_aloadn hP 25 0 dX3_isNext_24 rfl rfl mm0 ?_
      refine x_geti hP 28 dX3_isNext_25 rfl fl_RX3_85 hg.o (by decide) rfl ?_
      refine x_isub hP 29 dX3_isNext_28 rfl ?_
      obtain ⟨hs, h⟩ := h
      refine x_iald hP 30 dX3_isNext_29 rfl hg.a2 (by decide) hs ?_
      refine x_ldc hP 32 dX3_isNext_30 rfl kc_RX3_55 ?_
      obtain ⟨hs1, h⟩ := h
      refine x_icmp hP 35 39 ((σ (o + 2) (Int.toNat (a - (σ o 4)))) = 1000000000) dX3_isNext_32 rfl rfl hs1 (by decide) rfl (fun hbr => ?_) (fun hbr => ?_)
      · replace h := h.1 hbr
        refine x_iconst hP 40 dX3_isNext_39 rfl ?_
        exact x_zret hP dX3_isNext_40 ⟨Nat.le_refl _, Nat.le_refl _⟩ (by decide) h
      · replace h := h.2 hbr
        refine x_iconst hP 36 dX3_isNext_35 rfl ?_
        refine x_goto hP 40 dX3_isNext_36 rfl ?_
        exact x_zret hP dX3_isNext_40 ⟨Nat.le_refl _, Nat.le_refl _⟩ (by decide) h
theorem k_X3_take_0 {d : Nat} {Q : pQ} {P : pP} {g : pG} {σ : pM} (hP : Clo (pCall d) yX3_take cX3_take none 3 0 0 Q P) (o : Nat) (a : Int) (b : Int) (hg : gPl g o) (h : ∃ (v1 : Int), Ca d yX3_mayBeBetter [vR (some o), vI b, vI a] g σ [vI v1] g σ ∧ iR v1 ∧ (¬ v1 = 0 → iR ((up2 σ o 0 1) o 12) ∧ (((up2 σ o 0 1) o 12) = 0 → ∃ (s2 : pM), Ca d yX5_copyRow [vR (some (o + 3)), vR (some (o + 4))] g (up2 (up2 (up2 σ o 0 1) o 2 b) o 3 a) [] g s2 ∧ Q [] g s2) ∧ (¬ (((up2 σ o 0 1) o 12) = 0) → iR b ∧ iR ((up2 σ o 0 1) o 2) ∧ (((up2 σ o 0 1) o 2) ≤ b → ∃ (s3 : pM), Ca d yX5_copyRow [vR (some (o + 3)), vR (some (o + 4))] g (up2 (up2 (up2 σ o 0 1) o 2 b) o 3 a) [] g s3 ∧ Q [] g s3) ∧ (¬ (((up2 σ o 0 1) o 2) ≤ b) → ∃ (s4 : pM), Ca d yX5_copyRow [vR (some (o + 3)), vR (some (o + 4))] g (up2 (up2 (up2 σ o 0 1) o 2 ((-1))) o 3 a) [] g s4 ∧ Q [] g s4))) ∧ (¬ (¬ v1 = 0) → Q [] g σ)) : P 0 [(0, vR (some o)), (1, vI a), (2, vI b)] [] g σ 0 0 := by
  refine x_aloadn hP 1 0 dX3_take_0 rfl rfl mm0 ?_
  refine x_iloadn hP 2 2 dX3_take_1 rfl rfl mm2 ?_
  refine x_iloadn hP 3 1 dX3_take_2 rfl rfl mm1 ?_
  obtain ⟨v1, hc, h⟩ := h
  refine x_cv hP 6 [vI b, vI a] [] dX3_take_3 rfl hg.o (by decide) rfl ml_RX3_153 im_X3_mayBeBetter se_X3_mayBeBetter it_RX3 pp_X3_mayBeBetter bd_X3_mayBeBetter rfl rfl ⟨Nat.le_refl _, Nat.le_refl _⟩ (by simp [pC]) hc ?_
  obtain ⟨hs1, h⟩ := h
  refine x_ifc hP 9 10 (¬ v1 = 0) dX3_take_6 rfl rfl hs1 rfl (fun hbr => ?_) (fun hbr => ?_)
  · replace h := h.1 hbr
    refine x_aloadn hP 11 0 dX3_take_10 rfl rfl mm0 ?_
    refine x_iconst hP 12 dX3_take_11 rfl ?_
    refine x_putf hP 15 dX3_take_12 rfl fl_RX3_31 hg.o (by decide) rfl rfl (fun _ => by decide) ?_
    refine x_aloadn hP 16 0 dX3_take_15 rfl rfl mm0 ?_
    refine x_aloadn hP 17 0 dX3_take_16 rfl rfl mm0 ?_
    refine x_geti hP 20 dX3_take_17 rfl fl_RX3_56 hg.o (by decide) rfl ?_
    obtain ⟨hs1, h⟩ := h
    refine x_ifc hP 23 35 (((up2 σ o 0 1) o 12) = 0) dX3_take_20 rfl rfl hs1 rfl (fun hbr => ?_) (fun hbr => ?_)
    · replace h := h.1 hbr
      refine x_iloadn hP 36 2 dX3_take_35 rfl rfl mm2 ?_
      refine x_putf hP 39 dX3_take_36 rfl fl_RX3_35 hg.o (by decide) rfl rfl (fun hz => absurd hz (by decide)) ?_
      refine x_aloadn hP 40 0 dX3_take_39 rfl rfl mm0 ?_
      refine x_iloadn hP 41 1 dX3_take_40 rfl rfl mm1 ?_
      refine x_putf hP 44 dX3_take_41 rfl fl_RX3_39 hg.o (by decide) rfl rfl (fun hz => absurd hz (by decide)) ?_
      refine x_aloadn hP 45 0 dX3_take_44 rfl rfl mm0 ?_
      refine x_getr hP 48 (o + 3) dX3_take_45 rfl fl_RX3_18 hg.o (by decide) rfl hg.r3 ?_
      refine x_aloadn hP 49 0 dX3_take_48 rfl rfl mm0 ?_
      refine x_getr hP 52 (o + 4) dX3_take_49 rfl fl_RX3_21 hg.o (by decide) rfl hg.r4 ?_
      obtain ⟨s2, hc, h⟩ := h
      refine x_csn hP 55 [vR (some (o + 3)), vR (some (o + 4))] [] dX3_take_52 rfl ml_RX3_157 sm_X5_copyRow it_RX5 pp_X5_copyRow bd_X5_copyRow rfl rfl ⟨Nat.le_refl _, Nat.le_refl _⟩ (by simp [pC]) hc ?_
      exact x_vret hP dX3_take_55 ⟨Nat.le_refl _, Nat.le_refl _⟩ h
    · replace h := h.2 hbr
      refine x_iloadn hP 24 2 dX3_take_23 rfl rfl mm2 ?_
      refine x_aloadn hP 25 0 dX3_take_24 rfl rfl mm0 ?_
      refine x_geti hP 28 dX3_take_25 rfl fl_RX3_35 hg.o (by decide) rfl ?_
      obtain ⟨hs1, hs2, h⟩ := h
      refine x_icmp hP 31 35 (((up2 σ o 0 1) o 2) ≤ b) dX3_take_28 rfl rfl hs1 hs2 rfl (fun hbr => ?_) (fun hbr => ?_)
      · replace h := h.1 hbr
        refine x_iloadn hP 36 2 dX3_take_35 rfl rfl mm2 ?_
        refine x_putf hP 39 dX3_take_36 rfl fl_RX3_35 hg.o (by decide) rfl rfl (fun hz => absurd hz (by decide)) ?_
        refine x_aloadn hP 40 0 dX3_take_39 rfl rfl mm0 ?_
        refine x_iloadn hP 41 1 dX3_take_40 rfl rfl mm1 ?_
        refine x_putf hP 44 dX3_take_41 rfl fl_RX3_39 hg.o (by decide) rfl rfl (fun hz => absurd hz (by decide)) ?_
        refine x_aloadn hP 45 0 dX3_take_44 rfl rfl mm0 ?_
        refine x_getr hP 48 (o + 3) dX3_take_45 rfl fl_RX3_18 hg.o (by decide) rfl hg.r3 ?_
        refine x_aloadn hP 49 0 dX3_take_48 rfl rfl mm0 ?_
        refine x_getr hP 52 (o + 4) dX3_take_49 rfl fl_RX3_21 hg.o (by decide) rfl hg.r4 ?_
        obtain ⟨s3, hc, h⟩ := h
        refine x_csn hP 55 [vR (some (o + 3)), vR (some (o + 4))] [] dX3_take_52 rfl ml_RX3_157 sm_X5_copyRow it_RX5 pp_X5_copyRow bd_X5_copyRow rfl rfl ⟨Nat.le_refl _, Nat.le_refl _⟩ (by simp [pC]) hc ?_
        exact x_vret hP dX3_take_55 ⟨Nat.le_refl _, Nat.le_refl _⟩ h
      · replace h := h.2 hbr
        refine x_iconst hP 32 dX3_take_31 rfl ?_
        refine x_goto hP 36 dX3_take_32 rfl ?_
        refine x_putf hP 39 dX3_take_36 rfl fl_RX3_35 hg.o (by decide) rfl rfl (fun hz => absurd hz (by decide)) ?_
        refine x_aloadn hP 40 0 dX3_take_39 rfl rfl mm0 ?_
        refine x_iloadn hP 41 1 dX3_take_40 rfl rfl mm1 ?_
        refine x_putf hP 44 dX3_take_41 rfl fl_RX3_39 hg.o (by decide) rfl rfl (fun hz => absurd hz (by decide)) ?_
        refine x_aloadn hP 45 0 dX3_take_44 rfl rfl mm0 ?_
        refine x_getr hP 48 (o + 3) dX3_take_45 rfl fl_RX3_18 hg.o (by decide) rfl hg.r3 ?_
        refine x_aloadn hP 49 0 dX3_take_48 rfl rfl mm0 ?_
        refine x_getr hP 52 (o + 4) dX3_take_49 rfl fl_RX3_21 hg.o (by decide) rfl hg.r4 ?_
        obtain ⟨s4, hc, h⟩ := h
        refine x_csn hP 55 [vR (some (o + 3)), vR (some (o + 4))] [] dX3_take_52 rfl ml_RX3_157 sm_X5_copyRow it_RX5 pp_X5_copyRow bd_X5_copyRow rfl rfl ⟨Nat.le_refl _, Nat.le_refl _⟩ (by simp [pC]) hc ?_
        exact x_vret hP dX3_take_55 ⟨Nat.le_refl _, Nat.le_refl _⟩ h
  · replace h := h.2 hbr
    exact x_vret hP dX3_take_9 ⟨Nat.le_refl _, Nat.le_refl _⟩ h
theorem k_X3_mayBeBetter_0 {d : Nat} {Q : pQ} {P : pP} {g : pG} {σ : pM} (hP : Clo (pCall d) yX3_mayBeBetter cX3_mayBeBetter (some .boolean) 3 0 0 Q P) (o : Nat) (a : Int) (b : Int) (hg : gPl g o) (h : iR a ∧ iR (σ o 2) ∧ (a = (σ o 2) → iR b ∧ iR (σ o 3) ∧ ((σ o 3) ≤ b → Q [vI 0] g σ) ∧ (¬ ((σ o 3) ≤ b) → iR (σ o 0) ∧ ((σ o 0) = 0 → Q [vI 1] g σ) ∧ (¬ ((σ o 0) = 0) → iR (σ o 12) ∧ (¬ (σ o 12) = 0 → Q [vI 0] g σ) ∧ (¬ (¬ (σ o 12) = 0) → Q [vI 1] g σ)))) ∧ (¬ (a = (σ o 2)) → iR a ∧ iR (σ o 2) ∧ ((σ o 2) ≤ a → Q [vI 0] g σ) ∧ (¬ ((σ o 2) ≤ a) → Q [vI 1] g σ))) : P 0 [(0, vR (some o)), (1, vI a), (2, vI b)] [] g σ 0 0 := by
  refine x_iloadn hP 1 1 dX3_mayBeBetter_0 rfl rfl mm1 ?_
  refine x_aloadn hP 2 0 dX3_mayBeBetter_1 rfl rfl mm0 ?_
  refine x_geti hP 5 dX3_mayBeBetter_2 rfl fl_RX3_35 hg.o (by decide) rfl ?_
  obtain ⟨hs1, hs2, h⟩ := h
  refine x_icmp hP 8 22 (a = (σ o 2)) dX3_mayBeBetter_5 rfl rfl hs1 hs2 rfl (fun hbr => ?_) (fun hbr => ?_)
  · replace h := h.1 hbr
    refine x_iloadn hP 23 2 dX3_mayBeBetter_22 rfl rfl mm2 ?_
    refine x_aloadn hP 24 0 dX3_mayBeBetter_23 rfl rfl mm0 ?_
    refine x_geti hP 27 dX3_mayBeBetter_24 rfl fl_RX3_39 hg.o (by decide) rfl ?_
    obtain ⟨hs1, hs2, h⟩ := h
    refine x_icmp hP 30 48 ((σ o 3) ≤ b) dX3_mayBeBetter_27 rfl rfl hs1 hs2 rfl (fun hbr => ?_) (fun hbr => ?_)
    · replace h := h.1 hbr
      refine x_iconst hP 49 dX3_mayBeBetter_48 rfl ?_
      exact x_zret hP dX3_mayBeBetter_49 ⟨Nat.le_refl _, Nat.le_refl _⟩ (by decide) h
    · replace h := h.2 hbr
      refine x_aloadn hP 31 0 dX3_mayBeBetter_30 rfl rfl mm0 ?_
      refine x_geti hP 34 dX3_mayBeBetter_31 rfl fl_RX3_31 hg.o (by decide) rfl ?_
      obtain ⟨hs1, h⟩ := h
      refine x_ifc hP 37 44 ((σ o 0) = 0) dX3_mayBeBetter_34 rfl rfl hs1 rfl (fun hbr => ?_) (fun hbr => ?_)
      · replace h := h.1 hbr
        refine x_iconst hP 45 dX3_mayBeBetter_44 rfl ?_
        refine x_goto hP 49 dX3_mayBeBetter_45 rfl ?_
        exact x_zret hP dX3_mayBeBetter_49 ⟨Nat.le_refl _, Nat.le_refl _⟩ (by decide) h
      · replace h := h.2 hbr
        refine x_aloadn hP 38 0 dX3_mayBeBetter_37 rfl rfl mm0 ?_
        refine x_geti hP 41 dX3_mayBeBetter_38 rfl fl_RX3_56 hg.o (by decide) rfl ?_
        obtain ⟨hs1, h⟩ := h
        refine x_ifc hP 44 48 (¬ (σ o 12) = 0) dX3_mayBeBetter_41 rfl rfl hs1 rfl (fun hbr => ?_) (fun hbr => ?_)
        · replace h := h.1 hbr
          refine x_iconst hP 49 dX3_mayBeBetter_48 rfl ?_
          exact x_zret hP dX3_mayBeBetter_49 ⟨Nat.le_refl _, Nat.le_refl _⟩ (by decide) h
        · replace h := h.2 hbr
          refine x_iconst hP 45 dX3_mayBeBetter_44 rfl ?_
          refine x_goto hP 49 dX3_mayBeBetter_45 rfl ?_
          exact x_zret hP dX3_mayBeBetter_49 ⟨Nat.le_refl _, Nat.le_refl _⟩ (by decide) h
  · replace h := h.2 hbr
    refine x_iloadn hP 9 1 dX3_mayBeBetter_8 rfl rfl mm1 ?_
    refine x_aloadn hP 10 0 dX3_mayBeBetter_9 rfl rfl mm0 ?_
    refine x_geti hP 13 dX3_mayBeBetter_10 rfl fl_RX3_35 hg.o (by decide) rfl ?_
    obtain ⟨hs1, hs2, h⟩ := h
    refine x_icmp hP 16 20 ((σ o 2) ≤ a) dX3_mayBeBetter_13 rfl rfl hs1 hs2 rfl (fun hbr => ?_) (fun hbr => ?_)
    · replace h := h.1 hbr
      refine x_iconst hP 21 dX3_mayBeBetter_20 rfl ?_
      exact x_zret hP dX3_mayBeBetter_21 ⟨Nat.le_refl _, Nat.le_refl _⟩ (by decide) h
    · replace h := h.2 hbr
      refine x_iconst hP 17 dX3_mayBeBetter_16 rfl ?_
      refine x_goto hP 21 dX3_mayBeBetter_17 rfl ?_
      exact x_zret hP dX3_mayBeBetter_21 ⟨Nat.le_refl _, Nat.le_refl _⟩ (by decide) h
theorem k_X3_leastEnd_0 {d : Nat} {Q : pQ} {P : pP} {g : pG} {σ : pM} (hP : Clo (pCall d) yX3_leastEnd cX3_leastEnd (some .int) 4 0 0 Q P) (o : Nat) (a : Int) (b : Int) (hg : gPl g o) (h : iR ((σ o 10) - b) ∧ (¬ ((σ o 10) - b) = 0 → ∃ (v1 : Int), Ca d yX3_arrivalOf [vR (some o), vI (σ o 10)] g σ [vI v1] g σ ∧ ∃ (v2 : Int), Ca d yJ9_max_7cf53 [vI (a + ((σ o 10) - b)), vI (v1 + (σ o 11))] g σ [vI v2] g σ ∧ Q [vI v2] g σ) ∧ (¬ (¬ ((σ o 10) - b) = 0) → Q [vI a] g σ)) : P 0 [(0, vR (some o)), (1, vI a), (2, vI b)] [] g σ 0 0 := by
  refine x_aloadn hP 1 0 dX3_leastEnd_0 rfl rfl mm0 ?_
  refine x_geti hP 4 dX3_leastEnd_1 rfl fl_RX3_59 hg.o (by decide) rfl ?_
  refine x_iloadn hP 5 2 dX3_leastEnd_4 rfl rfl mm2 ?_
  refine x_isub hP 6 dX3_leastEnd_5 rfl ?_
  refine x_istoren hP 7 3 [(0, vR (some o)), (1, vI a), (2, vI b), (3, vI ((σ o 10) - b))] dX3_leastEnd_6 rfl rfl (by decide) rfl rfl ?_
  refine x_iloadn hP 8 3 dX3_leastEnd_7 rfl rfl mm3 ?_
  obtain ⟨hs1, h⟩ := h
  refine x_ifc hP 11 15 (¬ ((σ o 10) - b) = 0) dX3_leastEnd_8 rfl rfl hs1 rfl (fun hbr => ?_) (fun hbr => ?_)
  · replace h := h.1 hbr
    refine x_iloadn hP 16 1 dX3_leastEnd_15 rfl rfl mm1 ?_
    refine x_iloadn hP 17 3 dX3_leastEnd_16 rfl rfl mm3 ?_
    refine x_iadd hP 18 dX3_leastEnd_17 rfl ?_
    refine x_aloadn hP 19 0 dX3_leastEnd_18 rfl rfl mm0 ?_
    refine x_aloadn hP 20 0 dX3_leastEnd_19 rfl rfl mm0 ?_
    refine x_geti hP 23 dX3_leastEnd_20 rfl fl_RX3_59 hg.o (by decide) rfl ?_
    obtain ⟨v1, hc, h⟩ := h
    refine x_cv hP 26 [vI (σ o 10)] [vI (a + ((σ o 10) - b))] dX3_leastEnd_23 rfl hg.o (by decide) rfl ml_RX3_62 im_X3_arrivalOf se_X3_arrivalOf it_RX3 pp_X3_arrivalOf bd_X3_arrivalOf rfl rfl ⟨Nat.le_refl _, Nat.le_refl _⟩ (by simp [pC]) hc ?_
    refine x_aloadn hP 27 0 dX3_leastEnd_26 rfl rfl mm0 ?_
    refine x_geti hP 30 dX3_leastEnd_27 rfl fl_RX3_106 hg.o (by decide) rfl ?_
    refine x_iadd hP 31 dX3_leastEnd_30 rfl ?_
    obtain ⟨v2, hc, h⟩ := h
    refine x_cs hP 34 [vI (a + ((σ o 10) - b)), vI (v1 + (σ o 11))] [] dX3_leastEnd_31 rfl ml_RX3_144 sm_J9_max_7cf53 it_RJ9 pp_J9_max_7cf53 bd_J9_max_7cf53 rfl rfl ⟨Nat.le_refl _, Nat.le_refl _⟩ (by simp [pC]) hc ?_
    exact x_iret hP dX3_leastEnd_34 ⟨Nat.le_refl _, Nat.le_refl _⟩ h
  · replace h := h.2 hbr
    refine x_iloadn hP 12 1 dX3_leastEnd_11 rfl rfl mm1 ?_
    refine x_goto hP 34 dX3_leastEnd_12 rfl ?_
    exact x_iret hP dX3_leastEnd_34 ⟨Nat.le_refl _, Nat.le_refl _⟩ h
theorem k_X3_harmToCome_0 {d : Nat} {Q : pQ} {P : pP} {g : pG} {σ : pM} (hP : Clo (pCall d) yX3_harmToCome cX3_harmToCome (some .int) 9 0 0 Q P) (o : Nat) (a : Int) (b : Int) (hg : gPl g o) (h : P 5 [(0, vR (some o)), (1, vI a), (2, vI b), (3, vI 0), (4, vI 0)] [] g σ 0 0) : P 0 [(0, vR (some o)), (1, vI a), (2, vI b)] [] g σ 0 0 := by
  refine x_iconst hP 1 dX3_harmToCome_0 rfl ?_
  refine x_istoren hP 2 3 [(0, vR (some o)), (1, vI a), (2, vI b), (3, vI 0)] dX3_harmToCome_1 rfl rfl (by decide) rfl rfl ?_
  refine x_iconst hP 3 dX3_harmToCome_2 rfl ?_
  refine x_istore hP 5 [(0, vR (some o)), (1, vI a), (2, vI b), (3, vI 0), (4, vI 0)] dX3_harmToCome_3 rfl (by decide) rfl rfl ?_
  exact h
theorem k_X3_harmToCome_5 {d : Nat} {Q : pQ} {P : pP} {g : pG} {σ : pM} (hP : Clo (pCall d) yX3_harmToCome cX3_harmToCome (some .int) 9 0 0 Q P) (o : Nat) (x1 : Int) (x2 : Int) (x3 : Int) (x4 : Int) (hg : gPl g o) (h : iR x4 ∧ iR (σ o 4) ∧ ((σ o 4) ≤ x4 → Q [vI x3] g σ) ∧ (¬ ((σ o 4) ≤ x4) → P 23 [(0, vR (some o)), (1, vI x1), (2, vI x2), (3, vI x3), (4, vI x4), (5, vI x1), (6, vI x2), (7, vI 0)] [] g σ 0 0)) : P 5 [(0, vR (some o)), (1, vI x1), (2, vI x2), (3, vI x3), (4, vI x4)] [] g σ 0 0 := by
  refine x_iload hP 7 dX3_harmToCome_5 rfl mm4 ?_
  refine x_aloadn hP 8 0 dX3_harmToCome_7 rfl rfl mm0 ?_
  refine x_geti hP 11 dX3_harmToCome_8 rfl fl_RX3_85 hg.o (by decide) rfl ?_
  obtain ⟨hs1, hs2, h⟩ := h
  refine x_icmp hP 14 128 ((σ o 4) ≤ x4) dX3_harmToCome_11 rfl rfl hs1 hs2 rfl (fun hbr => ?_) (fun hbr => ?_)
  · replace h := h.1 hbr
    refine x_iloadn hP 129 3 dX3_harmToCome_128 rfl rfl mm3 ?_
    exact x_iret hP dX3_harmToCome_129 ⟨Nat.le_refl _, Nat.le_refl _⟩ h
  · replace h := h.2 hbr
    refine x_iloadn hP 15 1 dX3_harmToCome_14 rfl rfl mm1 ?_
    refine x_istore hP 17 [(0, vR (some o)), (1, vI x1), (2, vI x2), (3, vI x3), (4, vI x4), (5, vI x1)] dX3_harmToCome_15 rfl (by decide) rfl rfl ?_
    refine x_iloadn hP 18 2 dX3_harmToCome_17 rfl rfl mm2 ?_
    refine x_istore hP 20 [(0, vR (some o)), (1, vI x1), (2, vI x2), (3, vI x3), (4, vI x4), (5, vI x1), (6, vI x2)] dX3_harmToCome_18 rfl (by decide) rfl rfl ?_
    refine x_iconst hP 21 dX3_harmToCome_20 rfl ?_
    refine x_istore hP 23 [(0, vR (some o)), (1, vI x1), (2, vI x2), (3, vI x3), (4, vI x4), (5, vI x1), (6, vI x2), (7, vI 0)] dX3_harmToCome_21 rfl (by decide) rfl rfl ?_
    exact h
theorem k_X3_harmToCome_23 {d : Nat} {Q : pQ} {P : pP} {g : pG} {σ : pM} (hP : Clo (pCall d) yX3_harmToCome cX3_harmToCome (some .int) 9 0 0 Q P) (o : Nat) (x1 : Int) (x2 : Int) (x3 : Int) (x4 : Int) (x5 : Int) (x6 : Int) (x7 : Int) (hg : gPl g o) (h : iR x7 ∧ iR (σ o 5) ∧ ((σ o 5) ≤ x7 → P 5 [(0, vR (some o)), (1, vI x1), (2, vI x2), (3, vI x3), (4, vI (x4 + 1))] [] g σ 0 0) ∧ (¬ ((σ o 5) ≤ x7) → iR ((x7 * (σ o 4)) + x4) ∧ iR (σ o 6) ∧ ((σ o 6) ≤ ((x7 * (σ o 4)) + x4) → P 23 [(0, vR (some o)), (1, vI x1), (2, vI x2), (3, vI x3), (4, vI x4), (5, vI x5), (6, vI x6), (7, vI (x7 + 1))] [] g σ 0 0) ∧ (¬ ((σ o 6) ≤ ((x7 * (σ o 4)) + x4)) → (0 ≤ ((x7 * (σ o 4)) + x4) ∧ ((x7 * (σ o 4)) + x4) < 9) ∧ iR (σ (o + 2) (Int.toNat ((x7 * (σ o 4)) + x4))) ∧ ((σ (o + 2) (Int.toNat ((x7 * (σ o 4)) + x4))) = 1000000000 → (0 ≤ ((x7 * (σ o 4)) + x4) ∧ ((x7 * (σ o 4)) + x4) < 9) ∧ ∃ (v1 : Int), Ca d yX3_arrivalOf [vR (some o), vI (x6 + (σ (o + 1) (Int.toNat ((x7 * (σ o 4)) + x4))))] g σ [vI v1] g σ ∧ ∃ (v2 : Int), Ca d yJ9_max_7cf53 [vI x5, vI v1] g σ [vI v2] g σ ∧ ∃ (v3 : Int), Ca d yX3_harmCovering [vR (some o), vI ((x7 * (σ o 4)) + x4), vI v2] g σ [vI v3] g σ ∧ (0 ≤ ((x7 * (σ o 4)) + x4) ∧ ((x7 * (σ o 4)) + x4) < 9) ∧ P 23 [(0, vR (some o)), (1, vI x1), (2, vI x2), (3, vI (x3 + v3)), (4, vI x4), (5, vI (v2 + (σ (o + 1) (Int.toNat ((x7 * (σ o 4)) + x4))))), (6, vI (x6 + (σ (o + 1) (Int.toNat ((x7 * (σ o 4)) + x4))))), (7, vI (x7 + 1))] [] g σ 0 0) ∧ (¬ ((σ (o + 2) (Int.toNat ((x7 * (σ o 4)) + x4))) = 1000000000) → P 23 [(0, vR (some o)), (1, vI x1), (2, vI x2), (3, vI x3), (4, vI x4), (5, vI x5), (6, vI x6), (7, vI (x7 + 1))] [] g σ 0 0)))) : P 23 [(0, vR (some o)), (1, vI x1), (2, vI x2), (3, vI x3), (4, vI x4), (5, vI x5), (6, vI x6), (7, vI x7)] [] g σ 0 0 := by
  refine x_iload hP 25 dX3_harmToCome_23 rfl mm7 ?_
  refine x_aloadn hP 26 0 dX3_harmToCome_25 rfl rfl mm0 ?_
  refine x_geti hP 29 dX3_harmToCome_26 rfl fl_RX3_89 hg.o (by decide) rfl ?_
  obtain ⟨hs1, hs2, h⟩ := h
  refine x_icmp hP 32 122 ((σ o 5) ≤ x7) dX3_harmToCome_29 rfl rfl hs1 hs2 rfl (fun hbr => ?_) (fun hbr => ?_)
  · replace h := h.1 hbr
    refine x_iinc hP 125 [(0, vR (some o)), (1, vI x1), (2, vI x2), (3, vI x3), (4, vI (x4 + 1)), (5, vI x5), (6, vI x6), (7, vI x7)] dX3_harmToCome_122 rfl mm4 (by decide) rfl rfl ?_
    refine x_goto hP 5 dX3_harmToCome_125 rfl ?_
    exact x_sub hP [0, 1, 2, 3, 4] rfl h
  · replace h := h.2 hbr
    refine x_iload hP 34 dX3_harmToCome_32 rfl mm7 ?_
    refine x_aloadn hP 35 0 dX3_harmToCome_34 rfl rfl mm0 ?_
    refine x_geti hP 38 dX3_harmToCome_35 rfl fl_RX3_85 hg.o (by decide) rfl ?_
    refine x_imul hP 39 dX3_harmToCome_38 rfl ?_
    refine x_iload hP 41 dX3_harmToCome_39 rfl mm4 ?_
    refine x_iadd hP 42 dX3_harmToCome_41 rfl ?_
    refine x_istore hP 44 [(0, vR (some o)), (1, vI x1), (2, vI x2), (3, vI x3), (4, vI x4), (5, vI x5), (6, vI x6), (7, vI x7), (8, vI ((x7 * (σ o 4)) + x4))] dX3_harmToCome_42 rfl (by decide) rfl rfl ?_
    refine x_iload hP 46 dX3_harmToCome_44 rfl mm8 ?_
    refine x_aloadn hP 47 0 dX3_harmToCome_46 rfl rfl mm0 ?_
    refine x_geti hP 50 dX3_harmToCome_47 rfl fl_RX3_93 hg.o (by decide) rfl ?_
    obtain ⟨hs1, hs2, h⟩ := h
    refine x_icmp hP 53 116 ((σ o 6) ≤ ((x7 * (σ o 4)) + x4)) dX3_harmToCome_50 rfl rfl hs1 hs2 rfl (fun hbr => ?_) (fun hbr => ?_)
    · replace h := h.1 hbr
      refine x_iinc hP 119 [(0, vR (some o)), (1, vI x1), (2, vI x2), (3, vI x3), (4, vI x4), (5, vI x5), (6, vI x6), (7, vI (x7 + 1)), (8, vI ((x7 * (σ o 4)) + x4))] dX3_harmToCome_116 rfl mm7 (by decide) rfl rfl ?_
      refine x_goto hP 23 dX3_harmToCome_119 rfl ?_
      exact x_sub hP [0, 1, 2, 3, 4, 5, 6, 7] rfl h
    · replace h := h.2 hbr
      refine x_aloadn hP 54 0 dX3_harmToCome_53 rfl rfl mm0 ?_
      refine x_getr hP 57 (o + 2) dX3_harmToCome_54 rfl fl_RX3_15 hg.o (by decide) rfl hg.r2 ?_
      refine x_iload hP 59 dX3_harmToCome_57 rfl mm8 ?_
      obtain ⟨hs, h⟩ := h
      refine x_iald hP 60 dX3_harmToCome_59 rfl hg.a2 (by decide) hs ?_
      refine x_ldc hP 62 dX3_harmToCome_60 rfl kc_RX3_55 ?_
      obtain ⟨hs1, h⟩ := h
      refine x_icmp hP 65 68 ((σ (o + 2) (Int.toNat ((x7 * (σ o 4)) + x4))) = 1000000000) dX3_harmToCome_62 rfl rfl hs1 (by decide) rfl (fun hbr => ?_) (fun hbr => ?_)
      · replace h := h.1 hbr
        refine x_iload hP 70 dX3_harmToCome_68 rfl mm6 ?_
        refine x_aloadn hP 71 0 dX3_harmToCome_70 rfl rfl mm0 ?_
        refine x_getr hP 74 (o + 1) dX3_harmToCome_71 rfl fl_RX3_9 hg.o (by decide) rfl hg.r1 ?_
        refine x_iload hP 76 dX3_harmToCome_74 rfl mm8 ?_
        obtain ⟨hs, h⟩ := h
        refine x_iald hP 77 dX3_harmToCome_76 rfl hg.a1 (by decide) hs ?_
        refine x_iadd hP 78 dX3_harmToCome_77 rfl ?_
        refine x_istore hP 80 [(0, vR (some o)), (1, vI x1), (2, vI x2), (3, vI x3), (4, vI x4), (5, vI x5), (6, vI (x6 + (σ (o + 1) (Int.toNat ((x7 * (σ o 4)) + x4))))), (7, vI x7), (8, vI ((x7 * (σ o 4)) + x4))] dX3_harmToCome_78 rfl (by decide) rfl rfl ?_
        refine x_iload hP 82 dX3_harmToCome_80 rfl mm5 ?_
        refine x_aloadn hP 83 0 dX3_harmToCome_82 rfl rfl mm0 ?_
        refine x_iload hP 85 dX3_harmToCome_83 rfl mm6 ?_
        obtain ⟨v1, hc, h⟩ := h
        refine x_cv hP 88 [vI (x6 + (σ (o + 1) (Int.toNat ((x7 * (σ o 4)) + x4))))] [vI x5] dX3_harmToCome_85 rfl hg.o (by decide) rfl ml_RX3_62 im_X3_arrivalOf se_X3_arrivalOf it_RX3 pp_X3_arrivalOf bd_X3_arrivalOf rfl rfl ⟨Nat.le_refl _, Nat.le_refl _⟩ (by simp [pC]) hc ?_
        obtain ⟨v2, hc, h⟩ := h
        refine x_cs hP 91 [vI x5, vI v1] [] dX3_harmToCome_88 rfl ml_RX3_144 sm_J9_max_7cf53 it_RJ9 pp_J9_max_7cf53 bd_J9_max_7cf53 rfl rfl ⟨Nat.le_refl _, Nat.le_refl _⟩ (by simp [pC]) hc ?_
        refine x_istore hP 93 [(0, vR (some o)), (1, vI x1), (2, vI x2), (3, vI x3), (4, vI x4), (5, vI v2), (6, vI (x6 + (σ (o + 1) (Int.toNat ((x7 * (σ o 4)) + x4))))), (7, vI x7), (8, vI ((x7 * (σ o 4)) + x4))] dX3_harmToCome_91 rfl (by decide) rfl rfl ?_
        refine x_iloadn hP 94 3 dX3_harmToCome_93 rfl rfl mm3 ?_
        refine x_aloadn hP 95 0 dX3_harmToCome_94 rfl rfl mm0 ?_
        refine x_iload hP 97 dX3_harmToCome_95 rfl mm8 ?_
        refine x_iload hP 99 dX3_harmToCome_97 rfl mm5 ?_
        obtain ⟨v3, hc, h⟩ := h
        refine x_cv hP 102 [vI ((x7 * (σ o 4)) + x4), vI v2] [vI x3] dX3_harmToCome_99 rfl hg.o (by decide) rfl ml_RX3_134 im_X3_harmCovering se_X3_harmCovering it_RX3 pp_X3_harmCovering bd_X3_harmCovering rfl rfl ⟨Nat.le_refl _, Nat.le_refl _⟩ (by simp [pC]) hc ?_
        refine x_iadd hP 103 dX3_harmToCome_102 rfl ?_
        refine x_istoren hP 104 3 [(0, vR (some o)), (1, vI x1), (2, vI x2), (3, vI (x3 + v3)), (4, vI x4), (5, vI v2), (6, vI (x6 + (σ (o + 1) (Int.toNat ((x7 * (σ o 4)) + x4))))), (7, vI x7), (8, vI ((x7 * (σ o 4)) + x4))] dX3_harmToCome_103 rfl rfl (by decide) rfl rfl ?_
        refine x_iload hP 106 dX3_harmToCome_104 rfl mm5 ?_
        refine x_aloadn hP 107 0 dX3_harmToCome_106 rfl rfl mm0 ?_
        refine x_getr hP 110 (o + 1) dX3_harmToCome_107 rfl fl_RX3_9 hg.o (by decide) rfl hg.r1 ?_
        refine x_iload hP 112 dX3_harmToCome_110 rfl mm8 ?_
        obtain ⟨hs, h⟩ := h
        refine x_iald hP 113 dX3_harmToCome_112 rfl hg.a1 (by decide) hs ?_
        refine x_iadd hP 114 dX3_harmToCome_113 rfl ?_
        refine x_istore hP 116 [(0, vR (some o)), (1, vI x1), (2, vI x2), (3, vI (x3 + v3)), (4, vI x4), (5, vI (v2 + (σ (o + 1) (Int.toNat ((x7 * (σ o 4)) + x4))))), (6, vI (x6 + (σ (o + 1) (Int.toNat ((x7 * (σ o 4)) + x4))))), (7, vI x7), (8, vI ((x7 * (σ o 4)) + x4))] dX3_harmToCome_114 rfl (by decide) rfl rfl ?_
        refine x_iinc hP 119 [(0, vR (some o)), (1, vI x1), (2, vI x2), (3, vI (x3 + v3)), (4, vI x4), (5, vI (v2 + (σ (o + 1) (Int.toNat ((x7 * (σ o 4)) + x4))))), (6, vI (x6 + (σ (o + 1) (Int.toNat ((x7 * (σ o 4)) + x4))))), (7, vI (x7 + 1)), (8, vI ((x7 * (σ o 4)) + x4))] dX3_harmToCome_116 rfl mm7 (by decide) rfl rfl ?_
        refine x_goto hP 23 dX3_harmToCome_119 rfl ?_
        exact x_sub hP [0, 1, 2, 3, 4, 5, 6, 7] rfl h
      · replace h := h.2 hbr
        refine x_goto hP 116 dX3_harmToCome_65 rfl ?_
        refine x_iinc hP 119 [(0, vR (some o)), (1, vI x1), (2, vI x2), (3, vI x3), (4, vI x4), (5, vI x5), (6, vI x6), (7, vI (x7 + 1)), (8, vI ((x7 * (σ o 4)) + x4))] dX3_harmToCome_116 rfl mm7 (by decide) rfl rfl ?_
        refine x_goto hP 23 dX3_harmToCome_119 rfl ?_
        exact x_sub hP [0, 1, 2, 3, 4, 5, 6, 7] rfl h
theorem k_X3_harmCovering_0 {d : Nat} {Q : pQ} {P : pP} {g : pG} {σ : pM} (hP : Clo (pCall d) yX3_harmCovering cX3_harmCovering (some .int) 6 0 0 Q P) (o : Nat) (a : Int) (b : Int) (hg : gPl g o) (h : iR (σ o 4) ∧ (1 ≤ (σ o 4) → (iR a ∧ iR (σ o 4) ∧ (σ o 4) ≠ 0) ∧ iR a ∧ iR (σ o 4) ∧ (a < (σ o 4) → iR (Int.tmod a (σ o 4)) ∧ ((Int.tmod a (σ o 4)) ≤ 0 → iR ((Int.tmod a (σ o 4)) + 1) ∧ iR (σ o 4) ∧ ((σ o 4) ≤ ((Int.tmod a (σ o 4)) + 1) → Q [vI 0] g σ) ∧ (¬ ((σ o 4) ≤ ((Int.tmod a (σ o 4)) + 1)) → (0 ≤ (a + 1) ∧ (a + 1) < 9) ∧ iR (σ (o + 2) (Int.toNat (a + 1))) ∧ iR (b - (σ o 7)) ∧ ((b - (σ o 7)) ≤ (σ (o + 2) (Int.toNat (a + 1))) → Q [vI 0] g σ) ∧ (¬ ((b - (σ o 7)) ≤ (σ (o + 2) (Int.toNat (a + 1)))) → Q [vI (0 + (σ o 9))] g σ))) ∧ (¬ ((Int.tmod a (σ o 4)) ≤ 0) → (0 ≤ (a - 1) ∧ (a - 1) < 9) ∧ iR (σ (o + 2) (Int.toNat (a - 1))) ∧ iR (b - (σ o 7)) ∧ ((b - (σ o 7)) ≤ (σ (o + 2) (Int.toNat (a - 1))) → iR ((Int.tmod a (σ o 4)) + 1) ∧ iR (σ o 4) ∧ ((σ o 4) ≤ ((Int.tmod a (σ o 4)) + 1) → Q [vI 0] g σ) ∧ (¬ ((σ o 4) ≤ ((Int.tmod a (σ o 4)) + 1)) → (0 ≤ (a + 1) ∧ (a + 1) < 9) ∧ iR (σ (o + 2) (Int.toNat (a + 1))) ∧ iR (b - (σ o 7)) ∧ ((b - (σ o 7)) ≤ (σ (o + 2) (Int.toNat (a + 1))) → Q [vI 0] g σ) ∧ (¬ ((b - (σ o 7)) ≤ (σ (o + 2) (Int.toNat (a + 1)))) → Q [vI (0 + (σ o 9))] g σ))) ∧ (¬ ((b - (σ o 7)) ≤ (σ (o + 2) (Int.toNat (a - 1)))) → iR ((Int.tmod a (σ o 4)) + 1) ∧ iR (σ o 4) ∧ ((σ o 4) ≤ ((Int.tmod a (σ o 4)) + 1) → Q [vI (0 + (σ o 9))] g σ) ∧ (¬ ((σ o 4) ≤ ((Int.tmod a (σ o 4)) + 1)) → (0 ≤ (a + 1) ∧ (a + 1) < 9) ∧ iR (σ (o + 2) (Int.toNat (a + 1))) ∧ iR (b - (σ o 7)) ∧ ((b - (σ o 7)) ≤ (σ (o + 2) (Int.toNat (a + 1))) → Q [vI (0 + (σ o 9))] g σ) ∧ (¬ ((b - (σ o 7)) ≤ (σ (o + 2) (Int.toNat (a + 1)))) → Q [vI ((0 + (σ o 9)) + (σ o 9))] g σ))))) ∧ (¬ (a < (σ o 4)) → (0 ≤ (a - (σ o 4)) ∧ (a - (σ o 4)) < 9) ∧ iR (σ (o + 2) (Int.toNat (a - (σ o 4)))) ∧ iR (b - (σ o 7)) ∧ ((b - (σ o 7)) ≤ (σ (o + 2) (Int.toNat (a - (σ o 4)))) → iR (Int.tmod a (σ o 4)) ∧ ((Int.tmod a (σ o 4)) ≤ 0 → iR ((Int.tmod a (σ o 4)) + 1) ∧ iR (σ o 4) ∧ ((σ o 4) ≤ ((Int.tmod a (σ o 4)) + 1) → Q [vI 0] g σ) ∧ (¬ ((σ o 4) ≤ ((Int.tmod a (σ o 4)) + 1)) → (0 ≤ (a + 1) ∧ (a + 1) < 9) ∧ iR (σ (o + 2) (Int.toNat (a + 1))) ∧ iR (b - (σ o 7)) ∧ ((b - (σ o 7)) ≤ (σ (o + 2) (Int.toNat (a + 1))) → Q [vI 0] g σ) ∧ (¬ ((b - (σ o 7)) ≤ (σ (o + 2) (Int.toNat (a + 1)))) → Q [vI (0 + (σ o 9))] g σ))) ∧ (¬ ((Int.tmod a (σ o 4)) ≤ 0) → (0 ≤ (a - 1) ∧ (a - 1) < 9) ∧ iR (σ (o + 2) (Int.toNat (a - 1))) ∧ iR (b - (σ o 7)) ∧ ((b - (σ o 7)) ≤ (σ (o + 2) (Int.toNat (a - 1))) → iR ((Int.tmod a (σ o 4)) + 1) ∧ iR (σ o 4) ∧ ((σ o 4) ≤ ((Int.tmod a (σ o 4)) + 1) → Q [vI 0] g σ) ∧ (¬ ((σ o 4) ≤ ((Int.tmod a (σ o 4)) + 1)) → (0 ≤ (a + 1) ∧ (a + 1) < 9) ∧ iR (σ (o + 2) (Int.toNat (a + 1))) ∧ iR (b - (σ o 7)) ∧ ((b - (σ o 7)) ≤ (σ (o + 2) (Int.toNat (a + 1))) → Q [vI 0] g σ) ∧ (¬ ((b - (σ o 7)) ≤ (σ (o + 2) (Int.toNat (a + 1)))) → Q [vI (0 + (σ o 9))] g σ))) ∧ (¬ ((b - (σ o 7)) ≤ (σ (o + 2) (Int.toNat (a - 1)))) → iR ((Int.tmod a (σ o 4)) + 1) ∧ iR (σ o 4) ∧ ((σ o 4) ≤ ((Int.tmod a (σ o 4)) + 1) → Q [vI (0 + (σ o 9))] g σ) ∧ (¬ ((σ o 4) ≤ ((Int.tmod a (σ o 4)) + 1)) → (0 ≤ (a + 1) ∧ (a + 1) < 9) ∧ iR (σ (o + 2) (Int.toNat (a + 1))) ∧ iR (b - (σ o 7)) ∧ ((b - (σ o 7)) ≤ (σ (o + 2) (Int.toNat (a + 1))) → Q [vI (0 + (σ o 9))] g σ) ∧ (¬ ((b - (σ o 7)) ≤ (σ (o + 2) (Int.toNat (a + 1)))) → Q [vI ((0 + (σ o 9)) + (σ o 9))] g σ))))) ∧ (¬ ((b - (σ o 7)) ≤ (σ (o + 2) (Int.toNat (a - (σ o 4))))) → iR (Int.tmod a (σ o 4)) ∧ ((Int.tmod a (σ o 4)) ≤ 0 → iR ((Int.tmod a (σ o 4)) + 1) ∧ iR (σ o 4) ∧ ((σ o 4) ≤ ((Int.tmod a (σ o 4)) + 1) → Q [vI (0 + (σ o 8))] g σ) ∧ (¬ ((σ o 4) ≤ ((Int.tmod a (σ o 4)) + 1)) → (0 ≤ (a + 1) ∧ (a + 1) < 9) ∧ iR (σ (o + 2) (Int.toNat (a + 1))) ∧ iR (b - (σ o 7)) ∧ ((b - (σ o 7)) ≤ (σ (o + 2) (Int.toNat (a + 1))) → Q [vI (0 + (σ o 8))] g σ) ∧ (¬ ((b - (σ o 7)) ≤ (σ (o + 2) (Int.toNat (a + 1)))) → Q [vI ((0 + (σ o 8)) + (σ o 9))] g σ))) ∧ (¬ ((Int.tmod a (σ o 4)) ≤ 0) → (0 ≤ (a - 1) ∧ (a - 1) < 9) ∧ iR (σ (o + 2) (Int.toNat (a - 1))) ∧ iR (b - (σ o 7)) ∧ ((b - (σ o 7)) ≤ (σ (o + 2) (Int.toNat (a - 1))) → iR ((Int.tmod a (σ o 4)) + 1) ∧ iR (σ o 4) ∧ ((σ o 4) ≤ ((Int.tmod a (σ o 4)) + 1) → Q [vI (0 + (σ o 8))] g σ) ∧ (¬ ((σ o 4) ≤ ((Int.tmod a (σ o 4)) + 1)) → (0 ≤ (a + 1) ∧ (a + 1) < 9) ∧ iR (σ (o + 2) (Int.toNat (a + 1))) ∧ iR (b - (σ o 7)) ∧ ((b - (σ o 7)) ≤ (σ (o + 2) (Int.toNat (a + 1))) → Q [vI (0 + (σ o 8))] g σ) ∧ (¬ ((b - (σ o 7)) ≤ (σ (o + 2) (Int.toNat (a + 1)))) → Q [vI ((0 + (σ o 8)) + (σ o 9))] g σ))) ∧ (¬ ((b - (σ o 7)) ≤ (σ (o + 2) (Int.toNat (a - 1)))) → iR ((Int.tmod a (σ o 4)) + 1) ∧ iR (σ o 4) ∧ ((σ o 4) ≤ ((Int.tmod a (σ o 4)) + 1) → Q [vI ((0 + (σ o 8)) + (σ o 9))] g σ) ∧ (¬ ((σ o 4) ≤ ((Int.tmod a (σ o 4)) + 1)) → (0 ≤ (a + 1) ∧ (a + 1) < 9) ∧ iR (σ (o + 2) (Int.toNat (a + 1))) ∧ iR (b - (σ o 7)) ∧ ((b - (σ o 7)) ≤ (σ (o + 2) (Int.toNat (a + 1))) → Q [vI ((0 + (σ o 8)) + (σ o 9))] g σ) ∧ (¬ ((b - (σ o 7)) ≤ (σ (o + 2) (Int.toNat (a + 1)))) → Q [vI (((0 + (σ o 8)) + (σ o 9)) + (σ o 9))] g σ))))))) ∧ (¬ (1 ≤ (σ o 4)) → Q [vI 0] g σ)) : P 0 [(0, vR (some o)), (1, vI a), (2, vI b)] [] g σ 0 0 := by
  refine x_aloadn hP 1 0 dX3_harmCovering_0 rfl rfl mm0 ?_
  refine x_geti hP 4 dX3_harmCovering_1 rfl fl_RX3_85 hg.o (by decide) rfl ?_
  refine x_iconst hP 5 dX3_harmCovering_4 rfl ?_
  obtain ⟨hs1, h⟩ := h
  refine x_icmp hP 8 10 (1 ≤ (σ o 4)) dX3_harmCovering_5 rfl rfl hs1 (by decide) rfl (fun hbr => ?_) (fun hbr => ?_)
  · replace h := h.1 hbr
    refine x_iloadn hP 11 1 dX3_harmCovering_10 rfl rfl mm1 ?_
    refine x_aloadn hP 12 0 dX3_harmCovering_11 rfl rfl mm0 ?_
    refine x_geti hP 15 dX3_harmCovering_12 rfl fl_RX3_85 hg.o (by decide) rfl ?_
    obtain ⟨hs, h⟩ := h
    refine x_irem hP 16 dX3_harmCovering_15 rfl hs.1 hs.2.1 hs.2.2 ?_
    refine x_istoren hP 17 3 [(0, vR (some o)), (1, vI a), (2, vI b), (3, vI (Int.tmod a (σ o 4)))] dX3_harmCovering_16 rfl rfl (by decide) rfl rfl ?_
    refine x_iloadn hP 18 2 dX3_harmCovering_17 rfl rfl mm2 ?_
    refine x_aloadn hP 19 0 dX3_harmCovering_18 rfl rfl mm0 ?_
    refine x_geti hP 22 dX3_harmCovering_19 rfl fl_RX3_97 hg.o (by decide) rfl ?_
    refine x_isub hP 23 dX3_harmCovering_22 rfl ?_
    refine x_istore hP 25 [(0, vR (some o)), (1, vI a), (2, vI b), (3, vI (Int.tmod a (σ o 4))), (4, vI (b - (σ o 7)))] dX3_harmCovering_23 rfl (by decide) rfl rfl ?_
    refine x_iconst hP 26 dX3_harmCovering_25 rfl ?_
    refine x_istore hP 28 [(0, vR (some o)), (1, vI a), (2, vI b), (3, vI (Int.tmod a (σ o 4))), (4, vI (b - (σ o 7))), (5, vI 0)] dX3_harmCovering_26 rfl (by decide) rfl rfl ?_
    refine x_iloadn hP 29 1 dX3_harmCovering_28 rfl rfl mm1 ?_
    refine x_aloadn hP 30 0 dX3_harmCovering_29 rfl rfl mm0 ?_
    refine x_geti hP 33 dX3_harmCovering_30 rfl fl_RX3_85 hg.o (by decide) rfl ?_
    obtain ⟨hs1, hs2, h⟩ := h
    refine x_icmp hP 36 61 (a < (σ o 4)) dX3_harmCovering_33 rfl rfl hs1 hs2 rfl (fun hbr => ?_) (fun hbr => ?_)
    · replace h := h.1 hbr
      refine x_iloadn hP 62 3 dX3_harmCovering_61 rfl rfl mm3 ?_
      obtain ⟨hs1, h⟩ := h
      refine x_ifc hP 65 87 ((Int.tmod a (σ o 4)) ≤ 0) dX3_harmCovering_62 rfl rfl hs1 rfl (fun hbr => ?_) (fun hbr => ?_)
      · replace h := h.1 hbr
        refine x_iloadn hP 88 3 dX3_harmCovering_87 rfl rfl mm3 ?_
        refine x_iconst hP 89 dX3_harmCovering_88 rfl ?_
        refine x_iadd hP 90 dX3_harmCovering_89 rfl ?_
        refine x_aloadn hP 91 0 dX3_harmCovering_90 rfl rfl mm0 ?_
        refine x_geti hP 94 dX3_harmCovering_91 rfl fl_RX3_85 hg.o (by decide) rfl ?_
        obtain ⟨hs1, hs2, h⟩ := h
        refine x_icmp hP 97 119 ((σ o 4) ≤ ((Int.tmod a (σ o 4)) + 1)) dX3_harmCovering_94 rfl rfl hs1 hs2 rfl (fun hbr => ?_) (fun hbr => ?_)
        · replace h := h.1 hbr
          refine x_iload hP 121 dX3_harmCovering_119 rfl mm5 ?_
          exact x_iret hP dX3_harmCovering_121 ⟨Nat.le_refl _, Nat.le_refl _⟩ h
        · replace h := h.2 hbr
          refine x_aloadn hP 98 0 dX3_harmCovering_97 rfl rfl mm0 ?_
          refine x_getr hP 101 (o + 2) dX3_harmCovering_98 rfl fl_RX3_15 hg.o (by decide) rfl hg.r2 ?_
          refine x_iloadn hP 102 1 dX3_harmCovering_101 rfl rfl mm1 ?_
          refine x_iconst hP 103 dX3_harmCovering_102 rfl ?_
          refine x_iadd hP 104 dX3_harmCovering_103 rfl ?_
          obtain ⟨hs, h⟩ := h
          refine x_iald hP 105 dX3_harmCovering_104 rfl hg.a2 (by decide) hs ?_
          refine x_iload hP 107 dX3_harmCovering_105 rfl mm4 ?_
          obtain ⟨hs1, hs2, h⟩ := h
          refine x_icmp hP 110 119 ((b - (σ o 7)) ≤ (σ (o + 2) (Int.toNat (a + 1)))) dX3_harmCovering_107 rfl rfl hs1 hs2 rfl (fun hbr => ?_) (fun hbr => ?_)
          · replace h := h.1 hbr
            refine x_iload hP 121 dX3_harmCovering_119 rfl mm5 ?_
            exact x_iret hP dX3_harmCovering_121 ⟨Nat.le_refl _, Nat.le_refl _⟩ h
          · replace h := h.2 hbr
            refine x_iload hP 112 dX3_harmCovering_110 rfl mm5 ?_
            refine x_aloadn hP 113 0 dX3_harmCovering_112 rfl rfl mm0 ?_
            refine x_geti hP 116 dX3_harmCovering_113 rfl fl_RX3_105 hg.o (by decide) rfl ?_
            refine x_iadd hP 117 dX3_harmCovering_116 rfl ?_
            refine x_istore hP 119 [(0, vR (some o)), (1, vI a), (2, vI b), (3, vI (Int.tmod a (σ o 4))), (4, vI (b - (σ o 7))), (5, vI (0 + (σ o 9)))] dX3_harmCovering_117 rfl (by decide) rfl rfl ?_
            refine x_iload hP 121 dX3_harmCovering_119 rfl mm5 ?_
            exact x_iret hP dX3_harmCovering_121 ⟨Nat.le_refl _, Nat.le_refl _⟩ h
      · replace h := h.2 hbr
        refine x_aloadn hP 66 0 dX3_harmCovering_65 rfl rfl mm0 ?_
        refine x_getr hP 69 (o + 2) dX3_harmCovering_66 rfl fl_RX3_15 hg.o (by decide) rfl hg.r2 ?_
        refine x_iloadn hP 70 1 dX3_harmCovering_69 rfl rfl mm1 ?_
        refine x_iconst hP 71 dX3_harmCovering_70 rfl ?_
        refine x_isub hP 72 dX3_harmCovering_71 rfl ?_
        obtain ⟨hs, h⟩ := h
        refine x_iald hP 73 dX3_harmCovering_72 rfl hg.a2 (by decide) hs ?_
        refine x_iload hP 75 dX3_harmCovering_73 rfl mm4 ?_
        obtain ⟨hs1, hs2, h⟩ := h
        refine x_icmp hP 78 87 ((b - (σ o 7)) ≤ (σ (o + 2) (Int.toNat (a - 1)))) dX3_harmCovering_75 rfl rfl hs1 hs2 rfl (fun hbr => ?_) (fun hbr => ?_)
        · replace h := h.1 hbr
          refine x_iloadn hP 88 3 dX3_harmCovering_87 rfl rfl mm3 ?_
          refine x_iconst hP 89 dX3_harmCovering_88 rfl ?_
          refine x_iadd hP 90 dX3_harmCovering_89 rfl ?_
          refine x_aloadn hP 91 0 dX3_harmCovering_90 rfl rfl mm0 ?_
          refine x_geti hP 94 dX3_harmCovering_91 rfl fl_RX3_85 hg.o (by decide) rfl ?_
          obtain ⟨hs1, hs2, h⟩ := h
          refine x_icmp hP 97 119 ((σ o 4) ≤ ((Int.tmod a (σ o 4)) + 1)) dX3_harmCovering_94 rfl rfl hs1 hs2 rfl (fun hbr => ?_) (fun hbr => ?_)
          · replace h := h.1 hbr
            refine x_iload hP 121 dX3_harmCovering_119 rfl mm5 ?_
            exact x_iret hP dX3_harmCovering_121 ⟨Nat.le_refl _, Nat.le_refl _⟩ h
          · replace h := h.2 hbr
            refine x_aloadn hP 98 0 dX3_harmCovering_97 rfl rfl mm0 ?_
            refine x_getr hP 101 (o + 2) dX3_harmCovering_98 rfl fl_RX3_15 hg.o (by decide) rfl hg.r2 ?_
            refine x_iloadn hP 102 1 dX3_harmCovering_101 rfl rfl mm1 ?_
            refine x_iconst hP 103 dX3_harmCovering_102 rfl ?_
            refine x_iadd hP 104 dX3_harmCovering_103 rfl ?_
            obtain ⟨hs, h⟩ := h
            refine x_iald hP 105 dX3_harmCovering_104 rfl hg.a2 (by decide) hs ?_
            refine x_iload hP 107 dX3_harmCovering_105 rfl mm4 ?_
            obtain ⟨hs1, hs2, h⟩ := h
            refine x_icmp hP 110 119 ((b - (σ o 7)) ≤ (σ (o + 2) (Int.toNat (a + 1)))) dX3_harmCovering_107 rfl rfl hs1 hs2 rfl (fun hbr => ?_) (fun hbr => ?_)
            · replace h := h.1 hbr
              refine x_iload hP 121 dX3_harmCovering_119 rfl mm5 ?_
              exact x_iret hP dX3_harmCovering_121 ⟨Nat.le_refl _, Nat.le_refl _⟩ h
            · replace h := h.2 hbr
              refine x_iload hP 112 dX3_harmCovering_110 rfl mm5 ?_
              refine x_aloadn hP 113 0 dX3_harmCovering_112 rfl rfl mm0 ?_
              refine x_geti hP 116 dX3_harmCovering_113 rfl fl_RX3_105 hg.o (by decide) rfl ?_
              refine x_iadd hP 117 dX3_harmCovering_116 rfl ?_
              refine x_istore hP 119 [(0, vR (some o)), (1, vI a), (2, vI b), (3, vI (Int.tmod a (σ o 4))), (4, vI (b - (σ o 7))), (5, vI (0 + (σ o 9)))] dX3_harmCovering_117 rfl (by decide) rfl rfl ?_
              refine x_iload hP 121 dX3_harmCovering_119 rfl mm5 ?_
              exact x_iret hP dX3_harmCovering_121 ⟨Nat.le_refl _, Nat.le_refl _⟩ h
        · replace h := h.2 hbr
          refine x_iload hP 80 dX3_harmCovering_78 rfl mm5 ?_
          refine x_aloadn hP 81 0 dX3_harmCovering_80 rfl rfl mm0 ?_
          refine x_geti hP 84 dX3_harmCovering_81 rfl fl_RX3_105 hg.o (by decide) rfl ?_
          refine x_iadd hP 85 dX3_harmCovering_84 rfl ?_
          refine x_istore hP 87 [(0, vR (some o)), (1, vI a), (2, vI b), (3, vI (Int.tmod a (σ o 4))), (4, vI (b - (σ o 7))), (5, vI (0 + (σ o 9)))] dX3_harmCovering_85 rfl (by decide) rfl rfl ?_
          refine x_iloadn hP 88 3 dX3_harmCovering_87 rfl rfl mm3 ?_
          refine x_iconst hP 89 dX3_harmCovering_88 rfl ?_
          refine x_iadd hP 90 dX3_harmCovering_89 rfl ?_
          refine x_aloadn hP 91 0 dX3_harmCovering_90 rfl rfl mm0 ?_
          refine x_geti hP 94 dX3_harmCovering_91 rfl fl_RX3_85 hg.o (by decide) rfl ?_
          obtain ⟨hs1, hs2, h⟩ := h
          refine x_icmp hP 97 119 ((σ o 4) ≤ ((Int.tmod a (σ o 4)) + 1)) dX3_harmCovering_94 rfl rfl hs1 hs2 rfl (fun hbr => ?_) (fun hbr => ?_)
          · replace h := h.1 hbr
            refine x_iload hP 121 dX3_harmCovering_119 rfl mm5 ?_
            exact x_iret hP dX3_harmCovering_121 ⟨Nat.le_refl _, Nat.le_refl _⟩ h
          · replace h := h.2 hbr
            refine x_aloadn hP 98 0 dX3_harmCovering_97 rfl rfl mm0 ?_
            refine x_getr hP 101 (o + 2) dX3_harmCovering_98 rfl fl_RX3_15 hg.o (by decide) rfl hg.r2 ?_
            refine x_iloadn hP 102 1 dX3_harmCovering_101 rfl rfl mm1 ?_
            refine x_iconst hP 103 dX3_harmCovering_102 rfl ?_
            refine x_iadd hP 104 dX3_harmCovering_103 rfl ?_
            obtain ⟨hs, h⟩ := h
            refine x_iald hP 105 dX3_harmCovering_104 rfl hg.a2 (by decide) hs ?_
            refine x_iload hP 107 dX3_harmCovering_105 rfl mm4 ?_
            obtain ⟨hs1, hs2, h⟩ := h
            refine x_icmp hP 110 119 ((b - (σ o 7)) ≤ (σ (o + 2) (Int.toNat (a + 1)))) dX3_harmCovering_107 rfl rfl hs1 hs2 rfl (fun hbr => ?_) (fun hbr => ?_)
            · replace h := h.1 hbr
              refine x_iload hP 121 dX3_harmCovering_119 rfl mm5 ?_
              exact x_iret hP dX3_harmCovering_121 ⟨Nat.le_refl _, Nat.le_refl _⟩ h
            · replace h := h.2 hbr
              refine x_iload hP 112 dX3_harmCovering_110 rfl mm5 ?_
              refine x_aloadn hP 113 0 dX3_harmCovering_112 rfl rfl mm0 ?_
              refine x_geti hP 116 dX3_harmCovering_113 rfl fl_RX3_105 hg.o (by decide) rfl ?_
              refine x_iadd hP 117 dX3_harmCovering_116 rfl ?_
              refine x_istore hP 119 [(0, vR (some o)), (1, vI a), (2, vI b), (3, vI (Int.tmod a (σ o 4))), (4, vI (b - (σ o 7))), (5, vI ((0 + (σ o 9)) + (σ o 9)))] dX3_harmCovering_117 rfl (by decide) rfl rfl ?_
              refine x_iload hP 121 dX3_harmCovering_119 rfl mm5 ?_
              exact x_iret hP dX3_harmCovering_121 ⟨Nat.le_refl _, Nat.le_refl _⟩ h
    · replace h := h.2 hbr
      refine x_aloadn hP 37 0 dX3_harmCovering_36 rfl rfl mm0 ?_
      refine x_getr hP 40 (o + 2) dX3_harmCovering_37 rfl fl_RX3_15 hg.o (by decide) rfl hg.r2 ?_
      refine x_iloadn hP 41 1 dX3_harmCovering_40 rfl rfl mm1 ?_
      refine x_aloadn hP 42 0 dX3_harmCovering_41 rfl rfl mm0 ?_
      refine x_geti hP 45 dX3_harmCovering_42 rfl fl_RX3_85 hg.o (by decide) rfl ?_
      refine x_isub hP 46 dX3_harmCovering_45 rfl ?_
      obtain ⟨hs, h⟩ := h
      refine x_iald hP 47 dX3_harmCovering_46 rfl hg.a2 (by decide) hs ?_
      refine x_iload hP 49 dX3_harmCovering_47 rfl mm4 ?_
      obtain ⟨hs1, hs2, h⟩ := h
      refine x_icmp hP 52 61 ((b - (σ o 7)) ≤ (σ (o + 2) (Int.toNat (a - (σ o 4))))) dX3_harmCovering_49 rfl rfl hs1 hs2 rfl (fun hbr => ?_) (fun hbr => ?_)
      · replace h := h.1 hbr
        refine x_iloadn hP 62 3 dX3_harmCovering_61 rfl rfl mm3 ?_
        obtain ⟨hs1, h⟩ := h
        refine x_ifc hP 65 87 ((Int.tmod a (σ o 4)) ≤ 0) dX3_harmCovering_62 rfl rfl hs1 rfl (fun hbr => ?_) (fun hbr => ?_)
        · replace h := h.1 hbr
          refine x_iloadn hP 88 3 dX3_harmCovering_87 rfl rfl mm3 ?_
          refine x_iconst hP 89 dX3_harmCovering_88 rfl ?_
          refine x_iadd hP 90 dX3_harmCovering_89 rfl ?_
          refine x_aloadn hP 91 0 dX3_harmCovering_90 rfl rfl mm0 ?_
          refine x_geti hP 94 dX3_harmCovering_91 rfl fl_RX3_85 hg.o (by decide) rfl ?_
          obtain ⟨hs1, hs2, h⟩ := h
          refine x_icmp hP 97 119 ((σ o 4) ≤ ((Int.tmod a (σ o 4)) + 1)) dX3_harmCovering_94 rfl rfl hs1 hs2 rfl (fun hbr => ?_) (fun hbr => ?_)
          · replace h := h.1 hbr
            refine x_iload hP 121 dX3_harmCovering_119 rfl mm5 ?_
            exact x_iret hP dX3_harmCovering_121 ⟨Nat.le_refl _, Nat.le_refl _⟩ h
          · replace h := h.2 hbr
            refine x_aloadn hP 98 0 dX3_harmCovering_97 rfl rfl mm0 ?_
            refine x_getr hP 101 (o + 2) dX3_harmCovering_98 rfl fl_RX3_15 hg.o (by decide) rfl hg.r2 ?_
            refine x_iloadn hP 102 1 dX3_harmCovering_101 rfl rfl mm1 ?_
            refine x_iconst hP 103 dX3_harmCovering_102 rfl ?_
            refine x_iadd hP 104 dX3_harmCovering_103 rfl ?_
            obtain ⟨hs, h⟩ := h
            refine x_iald hP 105 dX3_harmCovering_104 rfl hg.a2 (by decide) hs ?_
            refine x_iload hP 107 dX3_harmCovering_105 rfl mm4 ?_
            obtain ⟨hs1, hs2, h⟩ := h
            refine x_icmp hP 110 119 ((b - (σ o 7)) ≤ (σ (o + 2) (Int.toNat (a + 1)))) dX3_harmCovering_107 rfl rfl hs1 hs2 rfl (fun hbr => ?_) (fun hbr => ?_)
            · replace h := h.1 hbr
              refine x_iload hP 121 dX3_harmCovering_119 rfl mm5 ?_
              exact x_iret hP dX3_harmCovering_121 ⟨Nat.le_refl _, Nat.le_refl _⟩ h
            · replace h := h.2 hbr
              refine x_iload hP 112 dX3_harmCovering_110 rfl mm5 ?_
              refine x_aloadn hP 113 0 dX3_harmCovering_112 rfl rfl mm0 ?_
              refine x_geti hP 116 dX3_harmCovering_113 rfl fl_RX3_105 hg.o (by decide) rfl ?_
              refine x_iadd hP 117 dX3_harmCovering_116 rfl ?_
              refine x_istore hP 119 [(0, vR (some o)), (1, vI a), (2, vI b), (3, vI (Int.tmod a (σ o 4))), (4, vI (b - (σ o 7))), (5, vI (0 + (σ o 9)))] dX3_harmCovering_117 rfl (by decide) rfl rfl ?_
              refine x_iload hP 121 dX3_harmCovering_119 rfl mm5 ?_
              exact x_iret hP dX3_harmCovering_121 ⟨Nat.le_refl _, Nat.le_refl _⟩ h
        · replace h := h.2 hbr
          refine x_aloadn hP 66 0 dX3_harmCovering_65 rfl rfl mm0 ?_
          refine x_getr hP 69 (o + 2) dX3_harmCovering_66 rfl fl_RX3_15 hg.o (by decide) rfl hg.r2 ?_
          refine x_iloadn hP 70 1 dX3_harmCovering_69 rfl rfl mm1 ?_
          refine x_iconst hP 71 dX3_harmCovering_70 rfl ?_
          refine x_isub hP 72 dX3_harmCovering_71 rfl ?_
          obtain ⟨hs, h⟩ := h
          refine x_iald hP 73 dX3_harmCovering_72 rfl hg.a2 (by decide) hs ?_
          refine x_iload hP 75 dX3_harmCovering_73 rfl mm4 ?_
          obtain ⟨hs1, hs2, h⟩ := h
          refine x_icmp hP 78 87 ((b - (σ o 7)) ≤ (σ (o + 2) (Int.toNat (a - 1)))) dX3_harmCovering_75 rfl rfl hs1 hs2 rfl (fun hbr => ?_) (fun hbr => ?_)
          · replace h := h.1 hbr
            refine x_iloadn hP 88 3 dX3_harmCovering_87 rfl rfl mm3 ?_
            refine x_iconst hP 89 dX3_harmCovering_88 rfl ?_
            refine x_iadd hP 90 dX3_harmCovering_89 rfl ?_
            refine x_aloadn hP 91 0 dX3_harmCovering_90 rfl rfl mm0 ?_
            refine x_geti hP 94 dX3_harmCovering_91 rfl fl_RX3_85 hg.o (by decide) rfl ?_
            obtain ⟨hs1, hs2, h⟩ := h
            refine x_icmp hP 97 119 ((σ o 4) ≤ ((Int.tmod a (σ o 4)) + 1)) dX3_harmCovering_94 rfl rfl hs1 hs2 rfl (fun hbr => ?_) (fun hbr => ?_)
            · replace h := h.1 hbr
              refine x_iload hP 121 dX3_harmCovering_119 rfl mm5 ?_
              exact x_iret hP dX3_harmCovering_121 ⟨Nat.le_refl _, Nat.le_refl _⟩ h
            · replace h := h.2 hbr
              refine x_aloadn hP 98 0 dX3_harmCovering_97 rfl rfl mm0 ?_
              refine x_getr hP 101 (o + 2) dX3_harmCovering_98 rfl fl_RX3_15 hg.o (by decide) rfl hg.r2 ?_
              refine x_iloadn hP 102 1 dX3_harmCovering_101 rfl rfl mm1 ?_
              refine x_iconst hP 103 dX3_harmCovering_102 rfl ?_
              refine x_iadd hP 104 dX3_harmCovering_103 rfl ?_
              obtain ⟨hs, h⟩ := h
              refine x_iald hP 105 dX3_harmCovering_104 rfl hg.a2 (by decide) hs ?_
              refine x_iload hP 107 dX3_harmCovering_105 rfl mm4 ?_
              obtain ⟨hs1, hs2, h⟩ := h
              refine x_icmp hP 110 119 ((b - (σ o 7)) ≤ (σ (o + 2) (Int.toNat (a + 1)))) dX3_harmCovering_107 rfl rfl hs1 hs2 rfl (fun hbr => ?_) (fun hbr => ?_)
              · replace h := h.1 hbr
                refine x_iload hP 121 dX3_harmCovering_119 rfl mm5 ?_
                exact x_iret hP dX3_harmCovering_121 ⟨Nat.le_refl _, Nat.le_refl _⟩ h
              · replace h := h.2 hbr
                refine x_iload hP 112 dX3_harmCovering_110 rfl mm5 ?_
                refine x_aloadn hP 113 0 dX3_harmCovering_112 rfl rfl mm0 ?_
                refine x_geti hP 116 dX3_harmCovering_113 rfl fl_RX3_105 hg.o (by decide) rfl ?_
                refine x_iadd hP 117 dX3_harmCovering_116 rfl ?_
                refine x_istore hP 119 [(0, vR (some o)), (1, vI a), (2, vI b), (3, vI (Int.tmod a (σ o 4))), (4, vI (b - (σ o 7))), (5, vI (0 + (σ o 9)))] dX3_harmCovering_117 rfl (by decide) rfl rfl ?_
                refine x_iload hP 121 dX3_harmCovering_119 rfl mm5 ?_
                exact x_iret hP dX3_harmCovering_121 ⟨Nat.le_refl _, Nat.le_refl _⟩ h
          · replace h := h.2 hbr
            refine x_iload hP 80 dX3_harmCovering_78 rfl mm5 ?_
            refine x_aloadn hP 81 0 dX3_harmCovering_80 rfl rfl mm0 ?_
            refine x_geti hP 84 dX3_harmCovering_81 rfl fl_RX3_105 hg.o (by decide) rfl ?_
            refine x_iadd hP 85 dX3_harmCovering_84 rfl ?_
            refine x_istore hP 87 [(0, vR (some o)), (1, vI a), (2, vI b), (3, vI (Int.tmod a (σ o 4))), (4, vI (b - (σ o 7))), (5, vI (0 + (σ o 9)))] dX3_harmCovering_85 rfl (by decide) rfl rfl ?_
            refine x_iloadn hP 88 3 dX3_harmCovering_87 rfl rfl mm3 ?_
            refine x_iconst hP 89 dX3_harmCovering_88 rfl ?_
            refine x_iadd hP 90 dX3_harmCovering_89 rfl ?_
            refine x_aloadn hP 91 0 dX3_harmCovering_90 rfl rfl mm0 ?_
            refine x_geti hP 94 dX3_harmCovering_91 rfl fl_RX3_85 hg.o (by decide) rfl ?_
            obtain ⟨hs1, hs2, h⟩ := h
            refine x_icmp hP 97 119 ((σ o 4) ≤ ((Int.tmod a (σ o 4)) + 1)) dX3_harmCovering_94 rfl rfl hs1 hs2 rfl (fun hbr => ?_) (fun hbr => ?_)
            · replace h := h.1 hbr
              refine x_iload hP 121 dX3_harmCovering_119 rfl mm5 ?_
              exact x_iret hP dX3_harmCovering_121 ⟨Nat.le_refl _, Nat.le_refl _⟩ h
            · replace h := h.2 hbr
              refine x_aloadn hP 98 0 dX3_harmCovering_97 rfl rfl mm0 ?_
              refine x_getr hP 101 (o + 2) dX3_harmCovering_98 rfl fl_RX3_15 hg.o (by decide) rfl hg.r2 ?_
              refine x_iloadn hP 102 1 dX3_harmCovering_101 rfl rfl mm1 ?_
              refine x_iconst hP 103 dX3_harmCovering_102 rfl ?_
              refine x_iadd hP 104 dX3_harmCovering_103 rfl ?_
              obtain ⟨hs, h⟩ := h
              refine x_iald hP 105 dX3_harmCovering_104 rfl hg.a2 (by decide) hs ?_
              refine x_iload hP 107 dX3_harmCovering_105 rfl mm4 ?_
              obtain ⟨hs1, hs2, h⟩ := h
              refine x_icmp hP 110 119 ((b - (σ o 7)) ≤ (σ (o + 2) (Int.toNat (a + 1)))) dX3_harmCovering_107 rfl rfl hs1 hs2 rfl (fun hbr => ?_) (fun hbr => ?_)
              · replace h := h.1 hbr
                refine x_iload hP 121 dX3_harmCovering_119 rfl mm5 ?_
                exact x_iret hP dX3_harmCovering_121 ⟨Nat.le_refl _, Nat.le_refl _⟩ h
              · replace h := h.2 hbr
                refine x_iload hP 112 dX3_harmCovering_110 rfl mm5 ?_
                refine x_aloadn hP 113 0 dX3_harmCovering_112 rfl rfl mm0 ?_
                refine x_geti hP 116 dX3_harmCovering_113 rfl fl_RX3_105 hg.o (by decide) rfl ?_
                refine x_iadd hP 117 dX3_harmCovering_116 rfl ?_
                refine x_istore hP 119 [(0, vR (some o)), (1, vI a), (2, vI b), (3, vI (Int.tmod a (σ o 4))), (4, vI (b - (σ o 7))), (5, vI ((0 + (σ o 9)) + (σ o 9)))] dX3_harmCovering_117 rfl (by decide) rfl rfl ?_
                refine x_iload hP 121 dX3_harmCovering_119 rfl mm5 ?_
                exact x_iret hP dX3_harmCovering_121 ⟨Nat.le_refl _, Nat.le_refl _⟩ h
      · replace h := h.2 hbr
        refine x_iload hP 54 dX3_harmCovering_52 rfl mm5 ?_
        refine x_aloadn hP 55 0 dX3_harmCovering_54 rfl rfl mm0 ?_
        refine x_geti hP 58 dX3_harmCovering_55 rfl fl_RX3_101 hg.o (by decide) rfl ?_
        refine x_iadd hP 59 dX3_harmCovering_58 rfl ?_
        refine x_istore hP 61 [(0, vR (some o)), (1, vI a), (2, vI b), (3, vI (Int.tmod a (σ o 4))), (4, vI (b - (σ o 7))), (5, vI (0 + (σ o 8)))] dX3_harmCovering_59 rfl (by decide) rfl rfl ?_
        refine x_iloadn hP 62 3 dX3_harmCovering_61 rfl rfl mm3 ?_
        obtain ⟨hs1, h⟩ := h
        refine x_ifc hP 65 87 ((Int.tmod a (σ o 4)) ≤ 0) dX3_harmCovering_62 rfl rfl hs1 rfl (fun hbr => ?_) (fun hbr => ?_)
        · replace h := h.1 hbr
          refine x_iloadn hP 88 3 dX3_harmCovering_87 rfl rfl mm3 ?_
          refine x_iconst hP 89 dX3_harmCovering_88 rfl ?_
          refine x_iadd hP 90 dX3_harmCovering_89 rfl ?_
          refine x_aloadn hP 91 0 dX3_harmCovering_90 rfl rfl mm0 ?_
          refine x_geti hP 94 dX3_harmCovering_91 rfl fl_RX3_85 hg.o (by decide) rfl ?_
          obtain ⟨hs1, hs2, h⟩ := h
          refine x_icmp hP 97 119 ((σ o 4) ≤ ((Int.tmod a (σ o 4)) + 1)) dX3_harmCovering_94 rfl rfl hs1 hs2 rfl (fun hbr => ?_) (fun hbr => ?_)
          · replace h := h.1 hbr
            refine x_iload hP 121 dX3_harmCovering_119 rfl mm5 ?_
            exact x_iret hP dX3_harmCovering_121 ⟨Nat.le_refl _, Nat.le_refl _⟩ h
          · replace h := h.2 hbr
            refine x_aloadn hP 98 0 dX3_harmCovering_97 rfl rfl mm0 ?_
            refine x_getr hP 101 (o + 2) dX3_harmCovering_98 rfl fl_RX3_15 hg.o (by decide) rfl hg.r2 ?_
            refine x_iloadn hP 102 1 dX3_harmCovering_101 rfl rfl mm1 ?_
            refine x_iconst hP 103 dX3_harmCovering_102 rfl ?_
            refine x_iadd hP 104 dX3_harmCovering_103 rfl ?_
            obtain ⟨hs, h⟩ := h
            refine x_iald hP 105 dX3_harmCovering_104 rfl hg.a2 (by decide) hs ?_
            refine x_iload hP 107 dX3_harmCovering_105 rfl mm4 ?_
            obtain ⟨hs1, hs2, h⟩ := h
            refine x_icmp hP 110 119 ((b - (σ o 7)) ≤ (σ (o + 2) (Int.toNat (a + 1)))) dX3_harmCovering_107 rfl rfl hs1 hs2 rfl (fun hbr => ?_) (fun hbr => ?_)
            · replace h := h.1 hbr
              refine x_iload hP 121 dX3_harmCovering_119 rfl mm5 ?_
              exact x_iret hP dX3_harmCovering_121 ⟨Nat.le_refl _, Nat.le_refl _⟩ h
            · replace h := h.2 hbr
              refine x_iload hP 112 dX3_harmCovering_110 rfl mm5 ?_
              refine x_aloadn hP 113 0 dX3_harmCovering_112 rfl rfl mm0 ?_
              refine x_geti hP 116 dX3_harmCovering_113 rfl fl_RX3_105 hg.o (by decide) rfl ?_
              refine x_iadd hP 117 dX3_harmCovering_116 rfl ?_
              refine x_istore hP 119 [(0, vR (some o)), (1, vI a), (2, vI b), (3, vI (Int.tmod a (σ o 4))), (4, vI (b - (σ o 7))), (5, vI ((0 + (σ o 8)) + (σ o 9)))] dX3_harmCovering_117 rfl (by decide) rfl rfl ?_
              refine x_iload hP 121 dX3_harmCovering_119 rfl mm5 ?_
              exact x_iret hP dX3_harmCovering_121 ⟨Nat.le_refl _, Nat.le_refl _⟩ h
        · replace h := h.2 hbr
          refine x_aloadn hP 66 0 dX3_harmCovering_65 rfl rfl mm0 ?_
          refine x_getr hP 69 (o + 2) dX3_harmCovering_66 rfl fl_RX3_15 hg.o (by decide) rfl hg.r2 ?_
          refine x_iloadn hP 70 1 dX3_harmCovering_69 rfl rfl mm1 ?_
          refine x_iconst hP 71 dX3_harmCovering_70 rfl ?_
          refine x_isub hP 72 dX3_harmCovering_71 rfl ?_
          obtain ⟨hs, h⟩ := h
          refine x_iald hP 73 dX3_harmCovering_72 rfl hg.a2 (by decide) hs ?_
          refine x_iload hP 75 dX3_harmCovering_73 rfl mm4 ?_
          obtain ⟨hs1, hs2, h⟩ := h
          refine x_icmp hP 78 87 ((b - (σ o 7)) ≤ (σ (o + 2) (Int.toNat (a - 1)))) dX3_harmCovering_75 rfl rfl hs1 hs2 rfl (fun hbr => ?_) (fun hbr => ?_)
          · replace h := h.1 hbr
            refine x_iloadn hP 88 3 dX3_harmCovering_87 rfl rfl mm3 ?_
            refine x_iconst hP 89 dX3_harmCovering_88 rfl ?_
            refine x_iadd hP 90 dX3_harmCovering_89 rfl ?_
            refine x_aloadn hP 91 0 dX3_harmCovering_90 rfl rfl mm0 ?_
            refine x_geti hP 94 dX3_harmCovering_91 rfl fl_RX3_85 hg.o (by decide) rfl ?_
            obtain ⟨hs1, hs2, h⟩ := h
            refine x_icmp hP 97 119 ((σ o 4) ≤ ((Int.tmod a (σ o 4)) + 1)) dX3_harmCovering_94 rfl rfl hs1 hs2 rfl (fun hbr => ?_) (fun hbr => ?_)
            · replace h := h.1 hbr
              refine x_iload hP 121 dX3_harmCovering_119 rfl mm5 ?_
              exact x_iret hP dX3_harmCovering_121 ⟨Nat.le_refl _, Nat.le_refl _⟩ h
            · replace h := h.2 hbr
              refine x_aloadn hP 98 0 dX3_harmCovering_97 rfl rfl mm0 ?_
              refine x_getr hP 101 (o + 2) dX3_harmCovering_98 rfl fl_RX3_15 hg.o (by decide) rfl hg.r2 ?_
              refine x_iloadn hP 102 1 dX3_harmCovering_101 rfl rfl mm1 ?_
              refine x_iconst hP 103 dX3_harmCovering_102 rfl ?_
              refine x_iadd hP 104 dX3_harmCovering_103 rfl ?_
              obtain ⟨hs, h⟩ := h
              refine x_iald hP 105 dX3_harmCovering_104 rfl hg.a2 (by decide) hs ?_
              refine x_iload hP 107 dX3_harmCovering_105 rfl mm4 ?_
              obtain ⟨hs1, hs2, h⟩ := h
              refine x_icmp hP 110 119 ((b - (σ o 7)) ≤ (σ (o + 2) (Int.toNat (a + 1)))) dX3_harmCovering_107 rfl rfl hs1 hs2 rfl (fun hbr => ?_) (fun hbr => ?_)
              · replace h := h.1 hbr
                refine x_iload hP 121 dX3_harmCovering_119 rfl mm5 ?_
                exact x_iret hP dX3_harmCovering_121 ⟨Nat.le_refl _, Nat.le_refl _⟩ h
              · replace h := h.2 hbr
                refine x_iload hP 112 dX3_harmCovering_110 rfl mm5 ?_
                refine x_aloadn hP 113 0 dX3_harmCovering_112 rfl rfl mm0 ?_
                refine x_geti hP 116 dX3_harmCovering_113 rfl fl_RX3_105 hg.o (by decide) rfl ?_
                refine x_iadd hP 117 dX3_harmCovering_116 rfl ?_
                refine x_istore hP 119 [(0, vR (some o)), (1, vI a), (2, vI b), (3, vI (Int.tmod a (σ o 4))), (4, vI (b - (σ o 7))), (5, vI ((0 + (σ o 8)) + (σ o 9)))] dX3_harmCovering_117 rfl (by decide) rfl rfl ?_
                refine x_iload hP 121 dX3_harmCovering_119 rfl mm5 ?_
                exact x_iret hP dX3_harmCovering_121 ⟨Nat.le_refl _, Nat.le_refl _⟩ h
          · replace h := h.2 hbr
            refine x_iload hP 80 dX3_harmCovering_78 rfl mm5 ?_
            refine x_aloadn hP 81 0 dX3_harmCovering_80 rfl rfl mm0 ?_
            refine x_geti hP 84 dX3_harmCovering_81 rfl fl_RX3_105 hg.o (by decide) rfl ?_
            refine x_iadd hP 85 dX3_harmCovering_84 rfl ?_
            refine x_istore hP 87 [(0, vR (some o)), (1, vI a), (2, vI b), (3, vI (Int.tmod a (σ o 4))), (4, vI (b - (σ o 7))), (5, vI ((0 + (σ o 8)) + (σ o 9)))] dX3_harmCovering_85 rfl (by decide) rfl rfl ?_
            refine x_iloadn hP 88 3 dX3_harmCovering_87 rfl rfl mm3 ?_
            refine x_iconst hP 89 dX3_harmCovering_88 rfl ?_
            refine x_iadd hP 90 dX3_harmCovering_89 rfl ?_
            refine x_aloadn hP 91 0 dX3_harmCovering_90 rfl rfl mm0 ?_
            refine x_geti hP 94 dX3_harmCovering_91 rfl fl_RX3_85 hg.o (by decide) rfl ?_
            obtain ⟨hs1, hs2, h⟩ := h
            refine x_icmp hP 97 119 ((σ o 4) ≤ ((Int.tmod a (σ o 4)) + 1)) dX3_harmCovering_94 rfl rfl hs1 hs2 rfl (fun hbr => ?_) (fun hbr => ?_)
            · replace h := h.1 hbr
              refine x_iload hP 121 dX3_harmCovering_119 rfl mm5 ?_
              exact x_iret hP dX3_harmCovering_121 ⟨Nat.le_refl _, Nat.le_refl _⟩ h
            · replace h := h.2 hbr
              refine x_aloadn hP 98 0 dX3_harmCovering_97 rfl rfl mm0 ?_
              refine x_getr hP 101 (o + 2) dX3_harmCovering_98 rfl fl_RX3_15 hg.o (by decide) rfl hg.r2 ?_
              refine x_iloadn hP 102 1 dX3_harmCovering_101 rfl rfl mm1 ?_
              refine x_iconst hP 103 dX3_harmCovering_102 rfl ?_
              refine x_iadd hP 104 dX3_harmCovering_103 rfl ?_
              obtain ⟨hs, h⟩ := h
              refine x_iald hP 105 dX3_harmCovering_104 rfl hg.a2 (by decide) hs ?_
              refine x_iload hP 107 dX3_harmCovering_105 rfl mm4 ?_
              obtain ⟨hs1, hs2, h⟩ := h
              refine x_icmp hP 110 119 ((b - (σ o 7)) ≤ (σ (o + 2) (Int.toNat (a + 1)))) dX3_harmCovering_107 rfl rfl hs1 hs2 rfl (fun hbr => ?_) (fun hbr => ?_)
              · replace h := h.1 hbr
                refine x_iload hP 121 dX3_harmCovering_119 rfl mm5 ?_
                exact x_iret hP dX3_harmCovering_121 ⟨Nat.le_refl _, Nat.le_refl _⟩ h
              · replace h := h.2 hbr
                refine x_iload hP 112 dX3_harmCovering_110 rfl mm5 ?_
                refine x_aloadn hP 113 0 dX3_harmCovering_112 rfl rfl mm0 ?_
                refine x_geti hP 116 dX3_harmCovering_113 rfl fl_RX3_105 hg.o (by decide) rfl ?_
                refine x_iadd hP 117 dX3_harmCovering_116 rfl ?_
                refine x_istore hP 119 [(0, vR (some o)), (1, vI a), (2, vI b), (3, vI (Int.tmod a (σ o 4))), (4, vI (b - (σ o 7))), (5, vI (((0 + (σ o 8)) + (σ o 9)) + (σ o 9)))] dX3_harmCovering_117 rfl (by decide) rfl rfl ?_
                refine x_iload hP 121 dX3_harmCovering_119 rfl mm5 ?_
                exact x_iret hP dX3_harmCovering_121 ⟨Nat.le_refl _, Nat.le_refl _⟩ h
  · replace h := h.2 hbr
    refine x_iconst hP 9 dX3_harmCovering_8 rfl ?_
    exact x_iret hP dX3_harmCovering_9 ⟨Nat.le_refl _, Nat.le_refl _⟩ h
theorem k_X1_remember_0 {d : Nat} {Q : pQ} {P : pP} {g : pG} {σ : pM} (hP : Clo (pCall d) yX1_remember cX1_remember none 2 0 0 Q P) (a : Nat) (hG : gAll g) (ha : gWl g a) (h : (0 ≤ (σ 26 1) ∧ (σ 26 1) < 20) ∧ ∃ (s1 : pM), Ca d yX4_copyFrom [vR (some (28 + 6 * (Int.toNat (σ 26 1)))), vR (some a)] g σ [] g s1 ∧ iR ((s1 26 1) + 1) ∧ (20 ≤ ((s1 26 1) + 1) → ∃ (v2 : Int), Ca d yJ9_min_7cf53 [vI (((up2 s1 26 1 0) 26 0) + 1), vI 20] g (up2 s1 26 1 0) [vI v2] g (up2 s1 26 1 0) ∧ Q [] g (up2 (up2 s1 26 1 0) 26 0 v2)) ∧ (¬ (20 ≤ ((s1 26 1) + 1)) → ∃ (v3 : Int), Ca d yJ9_min_7cf53 [vI (((up2 s1 26 1 ((s1 26 1) + 1)) 26 0) + 1), vI 20] g (up2 s1 26 1 ((s1 26 1) + 1)) [vI v3] g (up2 s1 26 1 ((s1 26 1) + 1)) ∧ Q [] g (up2 (up2 s1 26 1 ((s1 26 1) + 1)) 26 0 v3))) : P 0 [(0, vR (some 26)), (1, vR (some a))] [] g σ 0 0 := by
  refine x_aloadn hP 1 0 dX1_remember_0 rfl rfl mm0 ?_
  refine x_getr hP 4 27 dX1_remember_1 rfl fl_RX1_11 (hG.O_26) (by decide) rfl (hG.R_26_2) ?_
  refine x_aloadn hP 5 0 dX1_remember_4 rfl rfl mm0 ?_
  refine x_geti hP 8 dX1_remember_5 rfl fl_RX1_18 (hG.O_26) (by decide) rfl ?_
  obtain ⟨hs, h⟩ := h
  have hw8 := (hG.H _ (show (Int.toNat (σ 26 1)) < 20 by omega)).2
  refine x_aalr hP 9 (28 + 6 * (Int.toNat (σ 26 1))) dX1_remember_8 rfl (hG.A_27) (by decide) (by decide) hs (hG.H _ (show (Int.toNat (σ 26 1)) < 20 by omega)).1 ?_
  refine x_aloadn hP 10 1 dX1_remember_9 rfl rfl mm1 ?_
  obtain ⟨s1, hc, h⟩ := h
  refine x_cv hP 13 [vR (some a)] [] dX1_remember_10 rfl hw8.o (by decide) rfl ml_RX1_22 im_X4_copyFrom se_X4_copyFrom it_RX4 pp_X4_copyFrom bd_X4_copyFrom rfl rfl ⟨Nat.le_refl _, Nat.le_refl _⟩ (by simp [pC]) hc ?_
  refine x_aloadn hP 14 0 dX1_remember_13 rfl rfl mm0 ?_
  refine x_aloadn hP 15 0 dX1_remember_14 rfl rfl mm0 ?_
  refine x_geti hP 18 dX1_remember_15 rfl fl_RX1_18 (hG.O_26) (by decide) rfl ?_
  refine x_iconst hP 19 dX1_remember_18 rfl ?_
  refine x_iadd hP 20 dX1_remember_19 rfl ?_
  refine x_aloadn hP 21 0 dX1_remember_20 rfl rfl mm0 ?_
  refine x_getr hP 24 27 dX1_remember_21 rfl fl_RX1_11 (hG.O_26) (by decide) rfl (hG.R_26_2) ?_
  refine x_alen hP 25 dX1_remember_24 rfl (hG.A_27) (by simp [pArr]) ?_
  obtain ⟨hs1, h⟩ := h
  refine x_icmp hP 28 37 (20 ≤ ((s1 26 1) + 1)) dX1_remember_25 rfl rfl hs1 (by decide) rfl (fun hbr => ?_) (fun hbr => ?_)
  · replace h := h.1 hbr
    refine x_iconst hP 38 dX1_remember_37 rfl ?_
    refine x_putf hP 41 dX1_remember_38 rfl fl_RX1_18 (hG.O_26) (by decide) rfl rfl (fun hz => absurd hz (by decide)) ?_
    refine x_aloadn hP 42 0 dX1_remember_41 rfl rfl mm0 ?_
    refine x_aloadn hP 43 0 dX1_remember_42 rfl rfl mm0 ?_
    refine x_geti hP 46 dX1_remember_43 rfl fl_RX1_26 (hG.O_26) (by decide) rfl ?_
    refine x_iconst hP 47 dX1_remember_46 rfl ?_
    refine x_iadd hP 48 dX1_remember_47 rfl ?_
    refine x_aloadn hP 49 0 dX1_remember_48 rfl rfl mm0 ?_
    refine x_getr hP 52 27 dX1_remember_49 rfl fl_RX1_11 (hG.O_26) (by decide) rfl (hG.R_26_2) ?_
    refine x_alen hP 53 dX1_remember_52 rfl (hG.A_27) (by simp [pArr]) ?_
    obtain ⟨v2, hc, h⟩ := h
    refine x_cs hP 56 [vI (((up2 s1 26 1 0) 26 0) + 1), vI 20] [vR (some 26)] dX1_remember_53 rfl ml_RX1_29 sm_J9_min_7cf53 it_RJ9 pp_J9_min_7cf53 bd_J9_min_7cf53 rfl rfl ⟨Nat.le_refl _, Nat.le_refl _⟩ (by simp [pC]) hc ?_
    refine x_putf hP 59 dX1_remember_56 rfl fl_RX1_26 (hG.O_26) (by decide) rfl rfl (fun hz => absurd hz (by decide)) ?_
    exact x_vret hP dX1_remember_59 ⟨Nat.le_refl _, Nat.le_refl _⟩ h
  · replace h := h.2 hbr
    refine x_aloadn hP 29 0 dX1_remember_28 rfl rfl mm0 ?_
    refine x_geti hP 32 dX1_remember_29 rfl fl_RX1_18 (hG.O_26) (by decide) rfl ?_
    refine x_iconst hP 33 dX1_remember_32 rfl ?_
    refine x_iadd hP 34 dX1_remember_33 rfl ?_
    refine x_goto hP 38 dX1_remember_34 rfl ?_
    refine x_putf hP 41 dX1_remember_38 rfl fl_RX1_18 (hG.O_26) (by decide) rfl rfl (fun hz => absurd hz (by decide)) ?_
    refine x_aloadn hP 42 0 dX1_remember_41 rfl rfl mm0 ?_
    refine x_aloadn hP 43 0 dX1_remember_42 rfl rfl mm0 ?_
    refine x_geti hP 46 dX1_remember_43 rfl fl_RX1_26 (hG.O_26) (by decide) rfl ?_
    refine x_iconst hP 47 dX1_remember_46 rfl ?_
    refine x_iadd hP 48 dX1_remember_47 rfl ?_
    refine x_aloadn hP 49 0 dX1_remember_48 rfl rfl mm0 ?_
    refine x_getr hP 52 27 dX1_remember_49 rfl fl_RX1_11 (hG.O_26) (by decide) rfl (hG.R_26_2) ?_
    refine x_alen hP 53 dX1_remember_52 rfl (hG.A_27) (by simp [pArr]) ?_
    obtain ⟨v3, hc, h⟩ := h
    refine x_cs hP 56 [vI (((up2 s1 26 1 ((s1 26 1) + 1)) 26 0) + 1), vI 20] [vR (some 26)] dX1_remember_53 rfl ml_RX1_29 sm_J9_min_7cf53 it_RJ9 pp_J9_min_7cf53 bd_J9_min_7cf53 rfl rfl ⟨Nat.le_refl _, Nat.le_refl _⟩ (by simp [pC]) hc ?_
    refine x_putf hP 59 dX1_remember_56 rfl fl_RX1_26 (hG.O_26) (by decide) rfl rfl (fun hz => absurd hz (by decide)) ?_
    exact x_vret hP dX1_remember_59 ⟨Nat.le_refl _, Nat.le_refl _⟩ h
theorem k_X1_takeBack_0 {d : Nat} {Q : pQ} {P : pP} {g : pG} {σ : pM} (hP : Clo (pCall d) yX1_takeBack cX1_takeBack none 3 0 0 Q P) (a : Int) (b : Nat) (hG : gAll g) (hb : gWl g b) (h : iR a ∧ (a < 1 → Q [] g σ) ∧ (¬ (a < 1) → iR a ∧ iR (σ 26 0) ∧ (a ≤ (σ 26 0) → iR (σ 26 1) ∧ iR a ∧ ((σ 26 1) < a → (0 ≤ ((up2 (up2 σ 26 1 (((σ 26 1) - a) + 20)) 26 0 (((up2 σ 26 1 (((σ 26 1) - a) + 20)) 26 0) - a)) 26 1) ∧ ((up2 (up2 σ 26 1 (((σ 26 1) - a) + 20)) 26 0 (((up2 σ 26 1 (((σ 26 1) - a) + 20)) 26 0) - a)) 26 1) < 20) ∧ ∃ (s1 : pM), Ca d yX4_copyFrom [vR (some b), vR (some (28 + 6 * (Int.toNat ((up2 (up2 σ 26 1 (((σ 26 1) - a) + 20)) 26 0 (((up2 σ 26 1 (((σ 26 1) - a) + 20)) 26 0) - a)) 26 1))))] g (up2 (up2 σ 26 1 (((σ 26 1) - a) + 20)) 26 0 (((up2 σ 26 1 (((σ 26 1) - a) + 20)) 26 0) - a)) [] g s1 ∧ Q [] g s1) ∧ (¬ ((σ 26 1) < a) → (0 ≤ ((up2 (up2 σ 26 1 ((σ 26 1) - a)) 26 0 (((up2 σ 26 1 ((σ 26 1) - a)) 26 0) - a)) 26 1) ∧ ((up2 (up2 σ 26 1 ((σ 26 1) - a)) 26 0 (((up2 σ 26 1 ((σ 26 1) - a)) 26 0) - a)) 26 1) < 20) ∧ ∃ (s2 : pM), Ca d yX4_copyFrom [vR (some b), vR (some (28 + 6 * (Int.toNat ((up2 (up2 σ 26 1 ((σ 26 1) - a)) 26 0 (((up2 σ 26 1 ((σ 26 1) - a)) 26 0) - a)) 26 1))))] g (up2 (up2 σ 26 1 ((σ 26 1) - a)) 26 0 (((up2 σ 26 1 ((σ 26 1) - a)) 26 0) - a)) [] g s2 ∧ Q [] g s2)) ∧ (¬ (a ≤ (σ 26 0)) → Q [] g σ))) : P 0 [(0, vR (some 26)), (1, vI a), (2, vR (some b))] [] g σ 0 0 := by
  refine x_iloadn hP 1 1 dX1_takeBack_0 rfl rfl mm1 ?_
  refine x_iconst hP 2 dX1_takeBack_1 rfl ?_
  obtain ⟨hs1, h⟩ := h
  refine x_icmp hP 5 13 (a < 1) dX1_takeBack_2 rfl rfl hs1 (by decide) rfl (fun hbr => ?_) (fun hbr => ?_)
  · replace h := h.1 hbr
    exact x_vret hP dX1_takeBack_13 ⟨Nat.le_refl _, Nat.le_refl _⟩ h
  · replace h := h.2 hbr
    refine x_iloadn hP 6 1 dX1_takeBack_5 rfl rfl mm1 ?_
    refine x_aloadn hP 7 0 dX1_takeBack_6 rfl rfl mm0 ?_
    refine x_geti hP 10 dX1_takeBack_7 rfl fl_RX1_26 (hG.O_26) (by decide) rfl ?_
    obtain ⟨hs1, hs2, h⟩ := h
    refine x_icmp hP 13 14 (a ≤ (σ 26 0)) dX1_takeBack_10 rfl rfl hs1 hs2 rfl (fun hbr => ?_) (fun hbr => ?_)
    · replace h := h.1 hbr
      refine x_aloadn hP 15 0 dX1_takeBack_14 rfl rfl mm0 ?_
      refine x_aloadn hP 16 0 dX1_takeBack_15 rfl rfl mm0 ?_
      refine x_geti hP 19 dX1_takeBack_16 rfl fl_RX1_18 (hG.O_26) (by decide) rfl ?_
      refine x_iloadn hP 20 1 dX1_takeBack_19 rfl rfl mm1 ?_
      obtain ⟨hs1, hs2, h⟩ := h
      refine x_icmp hP 23 32 ((σ 26 1) < a) dX1_takeBack_20 rfl rfl hs1 hs2 rfl (fun hbr => ?_) (fun hbr => ?_)
      · replace h := h.1 hbr
        refine x_aloadn hP 33 0 dX1_takeBack_32 rfl rfl mm0 ?_
        refine x_geti hP 36 dX1_takeBack_33 rfl fl_RX1_18 (hG.O_26) (by decide) rfl ?_
        refine x_iloadn hP 37 1 dX1_takeBack_36 rfl rfl mm1 ?_
        refine x_isub hP 38 dX1_takeBack_37 rfl ?_
        refine x_aloadn hP 39 0 dX1_takeBack_38 rfl rfl mm0 ?_
        refine x_getr hP 42 27 dX1_takeBack_39 rfl fl_RX1_11 (hG.O_26) (by decide) rfl (hG.R_26_2) ?_
        refine x_alen hP 43 dX1_takeBack_42 rfl (hG.A_27) (by simp [pArr]) ?_
        refine x_iadd hP 44 dX1_takeBack_43 rfl ?_
        refine x_putf hP 47 dX1_takeBack_44 rfl fl_RX1_18 (hG.O_26) (by decide) rfl rfl (fun hz => absurd hz (by decide)) ?_
        refine x_aloadn hP 48 0 dX1_takeBack_47 rfl rfl mm0 ?_
        refine x_dup hP 49 dX1_takeBack_48 rfl rfl ?_
        refine x_geti hP 52 dX1_takeBack_49 rfl fl_RX1_26 (hG.O_26) (by decide) rfl ?_
        refine x_iloadn hP 53 1 dX1_takeBack_52 rfl rfl mm1 ?_
        refine x_isub hP 54 dX1_takeBack_53 rfl ?_
        refine x_putf hP 57 dX1_takeBack_54 rfl fl_RX1_26 (hG.O_26) (by decide) rfl rfl (fun hz => absurd hz (by decide)) ?_
        refine x_aloadn hP 58 2 dX1_takeBack_57 rfl rfl mm2 ?_
        refine x_aloadn hP 59 0 dX1_takeBack_58 rfl rfl mm0 ?_
        refine x_getr hP 62 27 dX1_takeBack_59 rfl fl_RX1_11 (hG.O_26) (by decide) rfl (hG.R_26_2) ?_
        refine x_aloadn hP 63 0 dX1_takeBack_62 rfl rfl mm0 ?_
        refine x_geti hP 66 dX1_takeBack_63 rfl fl_RX1_18 (hG.O_26) (by decide) rfl ?_
        obtain ⟨hs, h⟩ := h
        have hw66 := (hG.H _ (show (Int.toNat ((up2 (up2 σ 26 1 (((σ 26 1) - a) + 20)) 26 0 (((up2 σ 26 1 (((σ 26 1) - a) + 20)) 26 0) - a)) 26 1)) < 20 by omega)).2
        refine x_aalr hP 67 (28 + 6 * (Int.toNat ((up2 (up2 σ 26 1 (((σ 26 1) - a) + 20)) 26 0 (((up2 σ 26 1 (((σ 26 1) - a) + 20)) 26 0) - a)) 26 1))) dX1_takeBack_66 rfl (hG.A_27) (by decide) (by decide) hs (hG.H _ (show (Int.toNat ((up2 (up2 σ 26 1 (((σ 26 1) - a) + 20)) 26 0 (((up2 σ 26 1 (((σ 26 1) - a) + 20)) 26 0) - a)) 26 1)) < 20 by omega)).1 ?_
        obtain ⟨s1, hc, h⟩ := h
        refine x_cv hP 70 [vR (some (28 + 6 * (Int.toNat ((up2 (up2 σ 26 1 (((σ 26 1) - a) + 20)) 26 0 (((up2 σ 26 1 (((σ 26 1) - a) + 20)) 26 0) - a)) 26 1))))] [] dX1_takeBack_67 rfl hb.o (by decide) rfl ml_RX1_22 im_X4_copyFrom se_X4_copyFrom it_RX4 pp_X4_copyFrom bd_X4_copyFrom rfl rfl ⟨Nat.le_refl _, Nat.le_refl _⟩ (by simp [pC]) hc ?_
        exact x_vret hP dX1_takeBack_70 ⟨Nat.le_refl _, Nat.le_refl _⟩ h
      · replace h := h.2 hbr
        refine x_aloadn hP 24 0 dX1_takeBack_23 rfl rfl mm0 ?_
        refine x_geti hP 27 dX1_takeBack_24 rfl fl_RX1_18 (hG.O_26) (by decide) rfl ?_
        refine x_iloadn hP 28 1 dX1_takeBack_27 rfl rfl mm1 ?_
        refine x_isub hP 29 dX1_takeBack_28 rfl ?_
        refine x_goto hP 44 dX1_takeBack_29 rfl ?_
        refine x_putf hP 47 dX1_takeBack_44 rfl fl_RX1_18 (hG.O_26) (by decide) rfl rfl (fun hz => absurd hz (by decide)) ?_
        refine x_aloadn hP 48 0 dX1_takeBack_47 rfl rfl mm0 ?_
        refine x_dup hP 49 dX1_takeBack_48 rfl rfl ?_
        refine x_geti hP 52 dX1_takeBack_49 rfl fl_RX1_26 (hG.O_26) (by decide) rfl ?_
        refine x_iloadn hP 53 1 dX1_takeBack_52 rfl rfl mm1 ?_
        refine x_isub hP 54 dX1_takeBack_53 rfl ?_
        refine x_putf hP 57 dX1_takeBack_54 rfl fl_RX1_26 (hG.O_26) (by decide) rfl rfl (fun hz => absurd hz (by decide)) ?_
        refine x_aloadn hP 58 2 dX1_takeBack_57 rfl rfl mm2 ?_
        refine x_aloadn hP 59 0 dX1_takeBack_58 rfl rfl mm0 ?_
        refine x_getr hP 62 27 dX1_takeBack_59 rfl fl_RX1_11 (hG.O_26) (by decide) rfl (hG.R_26_2) ?_
        refine x_aloadn hP 63 0 dX1_takeBack_62 rfl rfl mm0 ?_
        refine x_geti hP 66 dX1_takeBack_63 rfl fl_RX1_18 (hG.O_26) (by decide) rfl ?_
        obtain ⟨hs, h⟩ := h
        have hw66 := (hG.H _ (show (Int.toNat ((up2 (up2 σ 26 1 ((σ 26 1) - a)) 26 0 (((up2 σ 26 1 ((σ 26 1) - a)) 26 0) - a)) 26 1)) < 20 by omega)).2
        refine x_aalr hP 67 (28 + 6 * (Int.toNat ((up2 (up2 σ 26 1 ((σ 26 1) - a)) 26 0 (((up2 σ 26 1 ((σ 26 1) - a)) 26 0) - a)) 26 1))) dX1_takeBack_66 rfl (hG.A_27) (by decide) (by decide) hs (hG.H _ (show (Int.toNat ((up2 (up2 σ 26 1 ((σ 26 1) - a)) 26 0 (((up2 σ 26 1 ((σ 26 1) - a)) 26 0) - a)) 26 1)) < 20 by omega)).1 ?_
        obtain ⟨s2, hc, h⟩ := h
        refine x_cv hP 70 [vR (some (28 + 6 * (Int.toNat ((up2 (up2 σ 26 1 ((σ 26 1) - a)) 26 0 (((up2 σ 26 1 ((σ 26 1) - a)) 26 0) - a)) 26 1))))] [] dX1_takeBack_67 rfl hb.o (by decide) rfl ml_RX1_22 im_X4_copyFrom se_X4_copyFrom it_RX4 pp_X4_copyFrom bd_X4_copyFrom rfl rfl ⟨Nat.le_refl _, Nat.le_refl _⟩ (by simp [pC]) hc ?_
        exact x_vret hP dX1_takeBack_70 ⟨Nat.le_refl _, Nat.le_refl _⟩ h
    · replace h := h.2 hbr
      exact x_vret hP dX1_takeBack_13 ⟨Nat.le_refl _, Nat.le_refl _⟩ h
theorem k_X1_forget_0 {d : Nat} {Q : pQ} {P : pP} {g : pG} {σ : pM} (hP : Clo (pCall d) yX1_forget cX1_forget none 1 0 0 Q P) (hG : gAll g) (h : Q [] g (up2 σ 26 0 0)) : P 0 [(0, vR (some 26))] [] g σ 0 0 := by
  refine x_aloadn hP 1 0 dX1_forget_0 rfl rfl mm0 ?_
  refine x_iconst hP 2 dX1_forget_1 rfl ?_
  refine x_putf hP 5 dX1_forget_2 rfl fl_RX1_26 (hG.O_26) (by decide) rfl rfl (fun hz => absurd hz (by decide)) ?_
  exact x_vret hP dX1_forget_5 ⟨Nat.le_refl _, Nat.le_refl _⟩ h
theorem k_X0_hasRoom_0 {d : Nat} {Q : pQ} {P : pP} {g : pG} {σ : pM} (hP : Clo (pCall d) yX0_hasRoom cX0_hasRoom (some .boolean) 1 0 0 Q P) (hG : gAll g) (h : iR (σ 148 0) ∧ (20 ≤ (σ 148 0) → Q [vI 0] g σ) ∧ (¬ (20 ≤ (σ 148 0)) → Q [vI 1] g σ)) : P 0 [(0, vR (some 148))] [] g σ 0 0 := by
  refine x_aloadn hP 1 0 dX0_hasRoom_0 rfl rfl mm0 ?_
  refine x_geti hP 4 dX0_hasRoom_1 rfl fl_RX0_19 (hG.O_148) (by decide) rfl ?_
  refine x_bipush hP 6 dX0_hasRoom_4 rfl (by decide) ?_
  obtain ⟨hs1, h⟩ := h
  refine x_icmp hP 9 13 (20 ≤ (σ 148 0)) dX0_hasRoom_6 rfl rfl hs1 (by decide) rfl (fun hbr => ?_) (fun hbr => ?_)
  · replace h := h.1 hbr
    refine x_iconst hP 14 dX0_hasRoom_13 rfl ?_
    exact x_zret hP dX0_hasRoom_14 ⟨Nat.le_refl _, Nat.le_refl _⟩ (by decide) h
  · replace h := h.2 hbr
    refine x_iconst hP 10 dX0_hasRoom_9 rfl ?_
    refine x_goto hP 14 dX0_hasRoom_10 rfl ?_
    exact x_zret hP dX0_hasRoom_14 ⟨Nat.le_refl _, Nat.le_refl _⟩ (by decide) h
theorem k_X0_enter_0 {d : Nat} {Q : pQ} {P : pP} {g : pG} {σ : pM} (hP : Clo (pCall d) yX0_enter cX0_enter none 3 0 0 Q P) (a : Int) (b : Int) (hG : gAll g) (h : ∃ (v1 : Int), Ca d yX0_hasRoom [vR (some 148)] g σ [vI v1] g σ ∧ iR v1 ∧ (¬ v1 = 0 → (0 ≤ (σ 148 0) ∧ (σ 148 0) < 20) ∧ (0 ≤ ((up2 σ 149 (Int.toNat (σ 148 0)) a) 148 0) ∧ ((up2 σ 149 (Int.toNat (σ 148 0)) a) 148 0) < 20) ∧ (b = 0 ∨ b = 1) ∧ Q [] g (up2 (up2 (up2 σ 149 (Int.toNat (σ 148 0)) a) 150 (Int.toNat ((up2 σ 149 (Int.toNat (σ 148 0)) a) 148 0)) b) 148 0 (((up2 (up2 σ 149 (Int.toNat (σ 148 0)) a) 150 (Int.toNat ((up2 σ 149 (Int.toNat (σ 148 0)) a) 148 0)) b) 148 0) + 1))) ∧ (¬ (¬ v1 = 0) → Q [] g σ)) : P 0 [(0, vR (some 148)), (1, vI a), (2, vI b)] [] g σ 0 0 := by
  refine x_aloadn hP 1 0 dX0_enter_0 rfl rfl mm0 ?_
  obtain ⟨v1, hc, h⟩ := h
  refine x_cv hP 4 [] [] dX0_enter_1 rfl (hG.O_148) (by decide) rfl ml_RX0_23 im_X0_hasRoom se_X0_hasRoom it_RX0 pp_X0_hasRoom bd_X0_hasRoom rfl rfl ⟨Nat.le_refl _, Nat.le_refl _⟩ (by simp [pC]) hc ?_
  obtain ⟨hs1, h⟩ := h
  refine x_ifc hP 7 8 (¬ v1 = 0) dX0_enter_4 rfl rfl hs1 rfl (fun hbr => ?_) (fun hbr => ?_)
  · replace h := h.1 hbr
    refine x_aloadn hP 9 0 dX0_enter_8 rfl rfl mm0 ?_
    refine x_getr hP 12 149 dX0_enter_9 rfl fl_RX0_9 (hG.O_148) (by decide) rfl (hG.R_148_1) ?_
    refine x_aloadn hP 13 0 dX0_enter_12 rfl rfl mm0 ?_
    refine x_geti hP 16 dX0_enter_13 rfl fl_RX0_19 (hG.O_148) (by decide) rfl ?_
    refine x_iloadn hP 17 1 dX0_enter_16 rfl rfl mm1 ?_
    obtain ⟨hs1, h⟩ := h
    refine x_iast hP 18 dX0_enter_17 rfl (hG.A_149) (by decide) hs1 ?_
    refine x_aloadn hP 19 0 dX0_enter_18 rfl rfl mm0 ?_
    refine x_getr hP 22 150 dX0_enter_19 rfl fl_RX0_15 (hG.O_148) (by decide) rfl (hG.R_148_2) ?_
    refine x_aloadn hP 23 0 dX0_enter_22 rfl rfl mm0 ?_
    refine x_geti hP 26 dX0_enter_23 rfl fl_RX0_19 (hG.O_148) (by decide) rfl ?_
    refine x_iloadn hP 27 2 dX0_enter_26 rfl rfl mm2 ?_
    obtain ⟨hs1, hs2, h⟩ := h
    refine x_zast hP 28 dX0_enter_27 rfl (hG.A_150) (by decide) hs1 hs2 ?_
    refine x_aloadn hP 29 0 dX0_enter_28 rfl rfl mm0 ?_
    refine x_dup hP 30 dX0_enter_29 rfl rfl ?_
    refine x_geti hP 33 dX0_enter_30 rfl fl_RX0_19 (hG.O_148) (by decide) rfl ?_
    refine x_iconst hP 34 dX0_enter_33 rfl ?_
    refine x_iadd hP 35 dX0_enter_34 rfl ?_
    refine x_putf hP 38 dX0_enter_35 rfl fl_RX0_19 (hG.O_148) (by decide) rfl rfl (fun hz => absurd hz (by decide)) ?_
    exact x_vret hP dX0_enter_38 ⟨Nat.le_refl _, Nat.le_refl _⟩ h
  · replace h := h.2 hbr
    exact x_vret hP dX0_enter_7 ⟨Nat.le_refl _, Nat.le_refl _⟩ h
theorem k_X0_firstWrong_0 {d : Nat} {Q : pQ} {P : pP} {g : pG} {σ : pM} (hP : Clo (pCall d) yX0_firstWrong cX0_firstWrong (some .int) 3 0 0 Q P) (a : Nat) (hG : gAll g) (ha : gWl g a) (h : P 2 [(0, vR (some 148)), (1, vR (some a)), (2, vI 0)] [] g σ 0 0) : P 0 [(0, vR (some 148)), (1, vR (some a))] [] g σ 0 0 := by
  refine x_iconst hP 1 dX0_firstWrong_0 rfl ?_
  refine x_istoren hP 2 2 [(0, vR (some 148)), (1, vR (some a)), (2, vI 0)] dX0_firstWrong_1 rfl rfl (by decide) rfl rfl ?_
  exact h
theorem k_X0_firstWrong_2 {d : Nat} {Q : pQ} {P : pP} {g : pG} {σ : pM} (hP : Clo (pCall d) yX0_firstWrong cX0_firstWrong (some .int) 3 0 0 Q P) (a : Nat) (x2 : Int) (hG : gAll g) (ha : gWl g a) (h : iR x2 ∧ iR (σ 148 0) ∧ ((σ 148 0) ≤ x2 → Q [vI ((-1))] g σ) ∧ (¬ ((σ 148 0) ≤ x2) → iR x2 ∧ (20 ≤ x2 → Q [vI ((-1))] g σ) ∧ (¬ (20 ≤ x2) → (0 ≤ x2 ∧ x2 < 20) ∧ ∃ (v1 : Int), Ca d yX4_isEdge [vR (some a), vI (σ 149 (Int.toNat x2))] g σ [vI v1] g σ ∧ iR v1 ∧ (v1 = 0 → Q [vI x2] g σ) ∧ (¬ (v1 = 0) → (0 ≤ x2 ∧ x2 < 20) ∧ ∃ (v2 : Int), Ca d yX4_isJoint [vR (some a), vI (σ 149 (Int.toNat x2))] g σ [vI v2] g σ ∧ (0 ≤ x2 ∧ x2 < 20) ∧ iR v2 ∧ iR (σ 150 (Int.toNat x2)) ∧ (v2 = (σ 150 (Int.toNat x2)) → P 2 [(0, vR (some 148)), (1, vR (some a)), (2, vI (x2 + 1))] [] g σ 0 0) ∧ (¬ (v2 = (σ 150 (Int.toNat x2))) → Q [vI x2] g σ))))) : P 2 [(0, vR (some 148)), (1, vR (some a)), (2, vI x2)] [] g σ 0 0 := by
  refine x_iloadn hP 3 2 dX0_firstWrong_2 rfl rfl mm2 ?_
  refine x_aloadn hP 4 0 dX0_firstWrong_3 rfl rfl mm0 ?_
  refine x_geti hP 7 dX0_firstWrong_4 rfl fl_RX0_19 (hG.O_148) (by decide) rfl ?_
  obtain ⟨hs1, hs2, h⟩ := h
  refine x_icmp hP 10 56 ((σ 148 0) ≤ x2) dX0_firstWrong_7 rfl rfl hs1 hs2 rfl (fun hbr => ?_) (fun hbr => ?_)
  · replace h := h.1 hbr
    refine x_iconst hP 57 dX0_firstWrong_56 rfl ?_
    exact x_iret hP dX0_firstWrong_57 ⟨Nat.le_refl _, Nat.le_refl _⟩ h
  · replace h := h.2 hbr
    refine x_iloadn hP 11 2 dX0_firstWrong_10 rfl rfl mm2 ?_
    refine x_bipush hP 13 dX0_firstWrong_11 rfl (by decide) ?_
    obtain ⟨hs1, h⟩ := h
    refine x_icmp hP 16 56 (20 ≤ x2) dX0_firstWrong_13 rfl rfl hs1 (by decide) rfl (fun hbr => ?_) (fun hbr => ?_)
    · replace h := h.1 hbr
      refine x_iconst hP 57 dX0_firstWrong_56 rfl ?_
      exact x_iret hP dX0_firstWrong_57 ⟨Nat.le_refl _, Nat.le_refl _⟩ h
    · replace h := h.2 hbr
      refine x_aloadn hP 17 1 dX0_firstWrong_16 rfl rfl mm1 ?_
      refine x_aloadn hP 18 0 dX0_firstWrong_17 rfl rfl mm0 ?_
      refine x_getr hP 21 149 dX0_firstWrong_18 rfl fl_RX0_9 (hG.O_148) (by decide) rfl (hG.R_148_1) ?_
      refine x_iloadn hP 22 2 dX0_firstWrong_21 rfl rfl mm2 ?_
      obtain ⟨hs, h⟩ := h
      refine x_iald hP 23 dX0_firstWrong_22 rfl (hG.A_149) (by decide) hs ?_
      obtain ⟨v1, hc, h⟩ := h
      refine x_cv hP 26 [vI (σ 149 (Int.toNat x2))] [] dX0_firstWrong_23 rfl ha.o (by decide) rfl ml_RX0_27 im_X4_isEdge se_X4_isEdge it_RX4 pp_X4_isEdge bd_X4_isEdge rfl rfl ⟨Nat.le_refl _, Nat.le_refl _⟩ (by simp [pC]) hc ?_
      obtain ⟨hs1, h⟩ := h
      refine x_ifc hP 29 48 (v1 = 0) dX0_firstWrong_26 rfl rfl hs1 rfl (fun hbr => ?_) (fun hbr => ?_)
      · replace h := h.1 hbr
        refine x_iloadn hP 49 2 dX0_firstWrong_48 rfl rfl mm2 ?_
        exact x_iret hP dX0_firstWrong_49 ⟨Nat.le_refl _, Nat.le_refl _⟩ h
      · replace h := h.2 hbr
        refine x_aloadn hP 30 1 dX0_firstWrong_29 rfl rfl mm1 ?_
        refine x_aloadn hP 31 0 dX0_firstWrong_30 rfl rfl mm0 ?_
        refine x_getr hP 34 149 dX0_firstWrong_31 rfl fl_RX0_9 (hG.O_148) (by decide) rfl (hG.R_148_1) ?_
        refine x_iloadn hP 35 2 dX0_firstWrong_34 rfl rfl mm2 ?_
        obtain ⟨hs, h⟩ := h
        refine x_iald hP 36 dX0_firstWrong_35 rfl (hG.A_149) (by decide) hs ?_
        obtain ⟨v2, hc, h⟩ := h
        refine x_cv hP 39 [vI (σ 149 (Int.toNat x2))] [] dX0_firstWrong_36 rfl ha.o (by decide) rfl ml_RX0_33 im_X4_isJoint se_X4_isJoint it_RX4 pp_X4_isJoint bd_X4_isJoint rfl rfl ⟨Nat.le_refl _, Nat.le_refl _⟩ (by simp [pC]) hc ?_
        refine x_aloadn hP 40 0 dX0_firstWrong_39 rfl rfl mm0 ?_
        refine x_getr hP 43 150 dX0_firstWrong_40 rfl fl_RX0_15 (hG.O_148) (by decide) rfl (hG.R_148_2) ?_
        refine x_iloadn hP 44 2 dX0_firstWrong_43 rfl rfl mm2 ?_
        obtain ⟨hs, h⟩ := h
        refine x_zald hP 45 dX0_firstWrong_44 rfl (hG.A_150) (by decide) hs ?_
        obtain ⟨hs1, hs2, h⟩ := h
        refine x_icmp hP 48 50 (v2 = (σ 150 (Int.toNat x2))) dX0_firstWrong_45 rfl rfl hs1 hs2 rfl (fun hbr => ?_) (fun hbr => ?_)
        · replace h := h.1 hbr
          refine x_iinc hP 53 [(0, vR (some 148)), (1, vR (some a)), (2, vI (x2 + 1))] dX0_firstWrong_50 rfl mm2 (by decide) rfl rfl ?_
          refine x_goto hP 2 dX0_firstWrong_53 rfl ?_
          exact h
        · replace h := h.2 hbr
          refine x_iloadn hP 49 2 dX0_firstWrong_48 rfl rfl mm2 ?_
          exact x_iret hP dX0_firstWrong_49 ⟨Nat.le_refl _, Nat.le_refl _⟩ h
theorem k_J9_max_7cf53_0 {d : Nat} {Q : pQ} {P : pP} {g : pG} {σ : pM} (hP : Clo (pCall d) yJ9_max_7cf53 cJ9_max_7cf53 (some .int) 2 0 0 Q P) (a : Int) (b : Int) (h : iR a ∧ iR b ∧ (a < b → Q [vI b] g σ) ∧ (¬ (a < b) → Q [vI a] g σ)) : P 0 [(0, vI a), (1, vI b)] [] g σ 0 0 := by
  refine x_iloadn hP 1 0 dJ9_max_7cf53_0 rfl rfl mm0 ?_
  refine x_iloadn hP 2 1 dJ9_max_7cf53_1 rfl rfl mm1 ?_
  obtain ⟨hs1, hs2, h⟩ := h
  refine x_icmp hP 5 9 (a < b) dJ9_max_7cf53_2 rfl rfl hs1 hs2 rfl (fun hbr => ?_) (fun hbr => ?_)
  · replace h := h.1 hbr
    refine x_iloadn hP 10 1 dJ9_max_7cf53_9 rfl rfl mm1 ?_
    exact x_iret hP dJ9_max_7cf53_10 ⟨Nat.le_refl _, Nat.le_refl _⟩ h
  · replace h := h.2 hbr
    refine x_iloadn hP 6 0 dJ9_max_7cf53_5 rfl rfl mm0 ?_
    refine x_goto hP 10 dJ9_max_7cf53_6 rfl ?_
    exact x_iret hP dJ9_max_7cf53_10 ⟨Nat.le_refl _, Nat.le_refl _⟩ h
theorem k_J9_min_7cf53_0 {d : Nat} {Q : pQ} {P : pP} {g : pG} {σ : pM} (hP : Clo (pCall d) yJ9_min_7cf53 cJ9_min_7cf53 (some .int) 2 0 0 Q P) (a : Int) (b : Int) (h : iR a ∧ iR b ∧ (b < a → Q [vI b] g σ) ∧ (¬ (b < a) → Q [vI a] g σ)) : P 0 [(0, vI a), (1, vI b)] [] g σ 0 0 := by
  refine x_iloadn hP 1 0 dJ9_min_7cf53_0 rfl rfl mm0 ?_
  refine x_iloadn hP 2 1 dJ9_min_7cf53_1 rfl rfl mm1 ?_
  obtain ⟨hs1, hs2, h⟩ := h
  refine x_icmp hP 5 9 (b < a) dJ9_min_7cf53_2 rfl rfl hs1 hs2 rfl (fun hbr => ?_) (fun hbr => ?_)
  · replace h := h.1 hbr
    refine x_iloadn hP 10 1 dJ9_min_7cf53_9 rfl rfl mm1 ?_
    exact x_iret hP dJ9_min_7cf53_10 ⟨Nat.le_refl _, Nat.le_refl _⟩ h
  · replace h := h.2 hbr
    refine x_iloadn hP 6 0 dJ9_min_7cf53_5 rfl rfl mm0 ?_
    refine x_goto hP 10 dJ9_min_7cf53_6 rfl ?_
    exact x_iret hP dJ9_min_7cf53_10 ⟨Nat.le_refl _, Nat.le_refl _⟩ h
