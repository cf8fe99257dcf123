/-! Walks with joins, by program -/
theorem kk_X3_harmCovering_0 {d : Nat} {Q : pQ} {P : pP} {g : pG} {σ : pM} (hP : Clo (pCall d) yX3_harmCovering cX3_harmCovering (some .int) 6 0 0 Q P) (o : Nat) (a : Int) (b : Int) (hg : gPl g o) (h : iR (σ o 4) ∧ (1 ≤ (σ o 4) → (iR a ∧ iR (σ o 4) ∧ (σ o 4) ≠ 0) ∧ iR a ∧ iR (σ o 4) ∧ (a < (σ o 4) → P 61 [(0, vR (some o)), (1, vI a), (3, vI (Int.tmod a (σ o 4))), (4, vI (b - (σ o 7))), (5, vI 0)] [] g σ 0 0) ∧ (¬ (a < (σ o 4)) → (0 ≤ (a - (σ o 4)) ∧ (a - (σ o 4)) < 9) ∧ iR (σ (o + 2) (Int.toNat (a - (σ o 4)))) ∧ iR (b - (σ o 7)) ∧ ((b - (σ o 7)) ≤ (σ (o + 2) (Int.toNat (a - (σ o 4)))) → P 61 [(0, vR (some o)), (1, vI a), (3, vI (Int.tmod a (σ o 4))), (4, vI (b - (σ o 7))), (5, vI 0)] [] g σ 0 0) ∧ (¬ ((b - (σ o 7)) ≤ (σ (o + 2) (Int.toNat (a - (σ o 4))))) → P 61 [(0, vR (some o)), (1, vI a), (3, vI (Int.tmod a (σ o 4))), (4, vI (b - (σ o 7))), (5, vI (0 + (σ o 8)))] [] g σ 0 0))) ∧ (¬ (1 ≤ (σ o 4)) → Q [vI 0] g σ)) : P 0 [(0, vR (some o)), (1, vI a), (2, vI b)] [] g σ 0 0 := by
  refine x_aloadn hP 1 0 dX3_harmCovering_0 rfl rfl mm0 ?_
  refine x_geti hP 4 dX3_harmCovering_1 rfl fl_RX3_85 hg.o (by decide) rfl ?_
  refine x_iconst hP 5 dX3_harmCovering_4 rfl ?_
  obtain ⟨hs1, h⟩ := h
  refine x_icmp hP 8 10 (1 ≤ (σ o 4)) dX3_harmCovering_5 rfl rfl hs1 (by decide) rfl (fun hbr => ?_) (fun hbr => ?_)
  · replace h := h.1 hbr
    refine x_iloadn hP 11 1 dX3_harmCovering_10 rfl rfl mm1 ?_
    refine x_aloadn hP 12 0 dX3_harmCovering_11 rfl rfl mm0 ?_
    refine x_geti hP 15 dX3_harmCovering_12 rfl fl_RX3_85 hg.o (by decide) rfl ?_
    obtain ⟨hs, h⟩ := h
    refine x_irem hP 16 dX3_harmCovering_15 rfl hs.1 hs.2.1 hs.2.2 ?_
    refine x_istoren hP 17 3 [(0, vR (some o)), (1, vI a), (2, vI b), (3, vI (Int.tmod a (σ o 4)))] dX3_harmCovering_16 rfl rfl (by decide) rfl rfl ?_
    refine x_iloadn hP 18 2 dX3_harmCovering_17 rfl rfl mm2 ?_
    refine x_aloadn hP 19 0 dX3_harmCovering_18 rfl rfl mm0 ?_
    refine x_geti hP 22 dX3_harmCovering_19 rfl fl_RX3_97 hg.o (by decide) rfl ?_
    refine x_isub hP 23 dX3_harmCovering_22 rfl ?_
    refine x_istore hP 25 [(0, vR (some o)), (1, vI a), (2, vI b), (3, vI (Int.tmod a (σ o 4))), (4, vI (b - (σ o 7)))] dX3_harmCovering_23 rfl (by decide) rfl rfl ?_
    refine x_iconst hP 26 dX3_harmCovering_25 rfl ?_
    refine x_istore hP 28 [(0, vR (some o)), (1, vI a), (2, vI b), (3, vI (Int.tmod a (σ o 4))), (4, vI (b - (σ o 7))), (5, vI 0)] dX3_harmCovering_26 rfl (by decide) rfl rfl ?_
    refine x_iloadn hP 29 1 dX3_harmCovering_28 rfl rfl mm1 ?_
    refine x_aloadn hP 30 0 dX3_harmCovering_29 rfl rfl mm0 ?_
    refine x_geti hP 33 dX3_harmCovering_30 rfl fl_RX3_85 hg.o (by decide) rfl ?_
    obtain ⟨hs1, hs2, h⟩ := h
    refine x_icmp hP 36 61 (a < (σ o 4)) dX3_harmCovering_33 rfl rfl hs1 hs2 rfl (fun hbr => ?_) (fun hbr => ?_)
    · replace h := h.1 hbr
      exact x_sub hP [0, 1, 3, 4, 5] rfl h
    · replace h := h.2 hbr
      refine x_aloadn hP 37 0 dX3_harmCovering_36 rfl rfl mm0 ?_
      refine x_getr hP 40 (o + 2) dX3_harmCovering_37 rfl fl_RX3_15 hg.o (by decide) rfl hg.r2 ?_
      refine x_iloadn hP 41 1 dX3_harmCovering_40 rfl rfl mm1 ?_
      refine x_aloadn hP 42 0 dX3_harmCovering_41 rfl rfl mm0 ?_
      refine x_geti hP 45 dX3_harmCovering_42 rfl fl_RX3_85 hg.o (by decide) rfl ?_
      refine x_isub hP 46 dX3_harmCovering_45 rfl ?_
      obtain ⟨hs, h⟩ := h
      refine x_iald hP 47 dX3_harmCovering_46 rfl hg.a2 (by decide) hs ?_
      refine x_iload hP 49 dX3_harmCovering_47 rfl mm4 ?_
      obtain ⟨hs1, hs2, h⟩ := h
      refine x_icmp hP 52 61 ((b - (σ o 7)) ≤ (σ (o + 2) (Int.toNat (a - (σ o 4))))) dX3_harmCovering_49 rfl rfl hs1 hs2 rfl (fun hbr => ?_) (fun hbr => ?_)
      · replace h := h.1 hbr
        exact x_sub hP [0, 1, 3, 4, 5] rfl h
      · replace h := h.2 hbr
        refine x_iload hP 54 dX3_harmCovering_52 rfl mm5 ?_
        refine x_aloadn hP 55 0 dX3_harmCovering_54 rfl rfl mm0 ?_
        refine x_geti hP 58 dX3_harmCovering_55 rfl fl_RX3_101 hg.o (by decide) rfl ?_
        refine x_iadd hP 59 dX3_harmCovering_58 rfl ?_
        refine x_istore hP 61 [(0, vR (some o)), (1, vI a), (2, vI b), (3, vI (Int.tmod a (σ o 4))), (4, vI (b - (σ o 7))), (5, vI (0 + (σ o 8)))] dX3_harmCovering_59 rfl (by decide) rfl rfl ?_
        exact x_sub hP [0, 1, 3, 4, 5] rfl h
  · replace h := h.2 hbr
    refine x_iconst hP 9 dX3_harmCovering_8 rfl ?_
    exact x_iret hP dX3_harmCovering_9 ⟨Nat.le_refl _, Nat.le_refl _⟩ h
theorem kk_X3_harmCovering_61 {d : Nat} {Q : pQ} {P : pP} {g : pG} {σ : pM} (hP : Clo (pCall d) yX3_harmCovering cX3_harmCovering (some .int) 6 0 0 Q P) (o : Nat) (x1 : Int) (x3 : Int) (x4 : Int) (x5 : Int) (hg : gPl g o) (h : iR x3 ∧ (x3 ≤ 0 → P 87 [(0, vR (some o)), (1, vI x1), (3, vI x3), (4, vI x4), (5, vI x5)] [] g σ 0 0) ∧ (¬ (x3 ≤ 0) → (0 ≤ (x1 - 1) ∧ (x1 - 1) < 9) ∧ iR (σ (o + 2) (Int.toNat (x1 - 1))) ∧ iR x4 ∧ (x4 ≤ (σ (o + 2) (Int.toNat (x1 - 1))) → P 87 [(0, vR (some o)), (1, vI x1), (3, vI x3), (4, vI x4), (5, vI x5)] [] g σ 0 0) ∧ (¬ (x4 ≤ (σ (o + 2) (Int.toNat (x1 - 1)))) → P 87 [(0, vR (some o)), (1, vI x1), (3, vI x3), (4, vI x4), (5, vI (x5 + (σ o 9)))] [] g σ 0 0))) : P 61 [(0, vR (some o)), (1, vI x1), (3, vI x3), (4, vI x4), (5, vI x5)] [] g σ 0 0 := by
  refine x_iloadn hP 62 3 dX3_harmCovering_61 rfl rfl mm2 ?_
  obtain ⟨hs1, h⟩ := h
  refine x_ifc hP 65 87 (x3 ≤ 0) dX3_harmCovering_62 rfl rfl hs1 rfl (fun hbr => ?_) (fun hbr => ?_)
  · replace h := h.1 hbr
    exact h
  · replace h := h.2 hbr
    refine x_aloadn hP 66 0 dX3_harmCovering_65 rfl rfl mm0 ?_
    refine x_getr hP 69 (o + 2) dX3_harmCovering_66 rfl fl_RX3_15 hg.o (by decide) rfl hg.r2 ?_
    refine x_iloadn hP 70 1 dX3_harmCovering_69 rfl rfl mm1 ?_
    refine x_iconst hP 71 dX3_harmCovering_70 rfl ?_
    refine x_isub hP 72 dX3_harmCovering_71 rfl ?_
    obtain ⟨hs, h⟩ := h
    refine x_iald hP 73 dX3_harmCovering_72 rfl hg.a2 (by decide) hs ?_
    refine x_iload hP 75 dX3_harmCovering_73 rfl mm3 ?_
    obtain ⟨hs1, hs2, h⟩ := h
    refine x_icmp hP 78 87 (x4 ≤ (σ (o + 2) (Int.toNat (x1 - 1)))) dX3_harmCovering_75 rfl rfl hs1 hs2 rfl (fun hbr => ?_) (fun hbr => ?_)
    · replace h := h.1 hbr
      exact h
    · replace h := h.2 hbr
      refine x_iload hP 80 dX3_harmCovering_78 rfl mm4 ?_
      refine x_aloadn hP 81 0 dX3_harmCovering_80 rfl rfl mm0 ?_
      refine x_geti hP 84 dX3_harmCovering_81 rfl fl_RX3_105 hg.o (by decide) rfl ?_
      refine x_iadd hP 85 dX3_harmCovering_84 rfl ?_
      refine x_istore hP 87 [(0, vR (some o)), (1, vI x1), (3, vI x3), (4, vI x4), (5, vI (x5 + (σ o 9)))] dX3_harmCovering_85 rfl (by decide) rfl rfl ?_
      exact h
theorem kk_X3_harmCovering_87 {d : Nat} {Q : pQ} {P : pP} {g : pG} {σ : pM} (hP : Clo (pCall d) yX3_harmCovering cX3_harmCovering (some .int) 6 0 0 Q P) (o : Nat) (x1 : Int) (x3 : Int) (x4 : Int) (x5 : Int) (hg : gPl g o) (h : iR (x3 + 1) ∧ iR (σ o 4) ∧ ((σ o 4) ≤ (x3 + 1) → P 119 [(5, vI x5)] [] g σ 0 0) ∧ (¬ ((σ o 4) ≤ (x3 + 1)) → (0 ≤ (x1 + 1) ∧ (x1 + 1) < 9) ∧ iR (σ (o + 2) (Int.toNat (x1 + 1))) ∧ iR x4 ∧ (x4 ≤ (σ (o + 2) (Int.toNat (x1 + 1))) → P 119 [(5, vI x5)] [] g σ 0 0) ∧ (¬ (x4 ≤ (σ (o + 2) (Int.toNat (x1 + 1)))) → P 119 [(5, vI (x5 + (σ o 9)))] [] g σ 0 0))) : P 87 [(0, vR (some o)), (1, vI x1), (3, vI x3), (4, vI x4), (5, vI x5)] [] g σ 0 0 := by
  refine x_iloadn hP 88 3 dX3_harmCovering_87 rfl rfl mm2 ?_
  refine x_iconst hP 89 dX3_harmCovering_88 rfl ?_
  refine x_iadd hP 90 dX3_harmCovering_89 rfl ?_
  refine x_aloadn hP 91 0 dX3_harmCovering_90 rfl rfl mm0 ?_
  refine x_geti hP 94 dX3_harmCovering_91 rfl fl_RX3_85 hg.o (by decide) rfl ?_
  obtain ⟨hs1, hs2, h⟩ := h
  refine x_icmp hP 97 119 ((σ o 4) ≤ (x3 + 1)) dX3_harmCovering_94 rfl rfl hs1 hs2 rfl (fun hbr => ?_) (fun hbr => ?_)
  · replace h := h.1 hbr
    exact x_sub hP [4] rfl h
  · replace h := h.2 hbr
    refine x_aloadn hP 98 0 dX3_harmCovering_97 rfl rfl mm0 ?_
    refine x_getr hP 101 (o + 2) dX3_harmCovering_98 rfl fl_RX3_15 hg.o (by decide) rfl hg.r2 ?_
    refine x_iloadn hP 102 1 dX3_harmCovering_101 rfl rfl mm1 ?_
    refine x_iconst hP 103 dX3_harmCovering_102 rfl ?_
    refine x_iadd hP 104 dX3_harmCovering_103 rfl ?_
    obtain ⟨hs, h⟩ := h
    refine x_iald hP 105 dX3_harmCovering_104 rfl hg.a2 (by decide) hs ?_
    refine x_iload hP 107 dX3_harmCovering_105 rfl mm3 ?_
    obtain ⟨hs1, hs2, h⟩ := h
    refine x_icmp hP 110 119 (x4 ≤ (σ (o + 2) (Int.toNat (x1 + 1)))) dX3_harmCovering_107 rfl rfl hs1 hs2 rfl (fun hbr => ?_) (fun hbr => ?_)
    · replace h := h.1 hbr
      exact x_sub hP [4] rfl h
    · replace h := h.2 hbr
      refine x_iload hP 112 dX3_harmCovering_110 rfl mm4 ?_
      refine x_aloadn hP 113 0 dX3_harmCovering_112 rfl rfl mm0 ?_
      refine x_geti hP 116 dX3_harmCovering_113 rfl fl_RX3_105 hg.o (by decide) rfl ?_
      refine x_iadd hP 117 dX3_harmCovering_116 rfl ?_
      refine x_istore hP 119 [(0, vR (some o)), (1, vI x1), (3, vI x3), (4, vI x4), (5, vI (x5 + (σ o 9)))] dX3_harmCovering_117 rfl (by decide) rfl rfl ?_
      exact x_sub hP [4] rfl h
theorem kk_X3_harmCovering_119 {d : Nat} {Q : pQ} {P : pP} {g : pG} {σ : pM} (hP : Clo (pCall d) yX3_harmCovering cX3_harmCovering (some .int) 6 0 0 Q P) (o : Nat) (x5 : Int) (hg : gPl g o) (h : Q [vI x5] g σ) : P 119 [(5, vI x5)] [] g σ 0 0 := by
  refine x_iload hP 121 dX3_harmCovering_119 rfl mm0 ?_
  exact x_iret hP dX3_harmCovering_121 ⟨Nat.le_refl _, Nat.le_refl _⟩ h
theorem kk_X3_readCells_0 {d : Nat} {Q : pQ} {P : pP} {g : pG} {σ : pM} (hP : Clo (pCall d) yX3_readCells cX3_readCells none 3 0 0 Q P) (o : Nat) (a : Nat) (hg : gPl g o) (ha : gWl g a) (h : P 17 [(0, vR (some o)), (1, vR (some a)), (2, vI 0)] [] g (up2 (up2 (up2 σ o 1 0) o 10 0) o 11 3) 0 0) : P 0 [(0, vR (some o)), (1, vR (some a))] [] g σ 0 0 := by
  refine x_aloadn hP 1 0 dX3_readCells_0 rfl rfl mm0 ?_
  refine x_iconst hP 2 dX3_readCells_1 rfl ?_
  refine x_putf hP 5 dX3_readCells_2 rfl fl_RX3_42 hg.o (by decide) rfl rfl (fun hz => absurd hz (by decide)) ?_
  refine x_aloadn hP 6 0 dX3_readCells_5 rfl rfl mm0 ?_
  refine x_iconst hP 7 dX3_readCells_6 rfl ?_
  refine x_putf hP 10 dX3_readCells_7 rfl fl_RX3_59 hg.o (by decide) rfl rfl (fun hz => absurd hz (by decide)) ?_
  refine x_aloadn hP 11 0 dX3_readCells_10 rfl rfl mm0 ?_
  refine x_iconst hP 12 dX3_readCells_11 rfl ?_
  refine x_putf hP 15 dX3_readCells_12 rfl fl_RX3_106 hg.o (by decide) rfl rfl (fun hz => absurd hz (by decide)) ?_
  refine x_iconst hP 16 dX3_readCells_15 rfl ?_
  refine x_istoren hP 17 2 [(0, vR (some o)), (1, vR (some a)), (2, vI 0)] dX3_readCells_16 rfl rfl (by decide) rfl rfl ?_
  exact h
theorem kk_X3_readCells_17 {d : Nat} {Q : pQ} {P : pP} {g : pG} {σ : pM} (hP : Clo (pCall d) yX3_readCells cX3_readCells none 3 0 0 Q P) (o : Nat) (a : Nat) (x2 : Int) (hg : gPl g o) (ha : gWl g a) (h : iR x2 ∧ iR (σ o 6) ∧ ((σ o 6) ≤ x2 → Q [] g σ) ∧ (¬ ((σ o 6) ≤ x2) → (0 ≤ x2 ∧ x2 < 9) ∧ (0 ≤ x2 ∧ x2 < 9) ∧ P 37 [(0, vR (some o)), (1, vR (some a)), (2, vI x2)] [] g (up2 σ (o + 1) (Int.toNat x2) (σ (a + 1) (Int.toNat x2))) 0 0)) : P 17 [(0, vR (some o)), (1, vR (some a)), (2, vI x2)] [] g σ 0 0 := by
  refine x_iloadn hP 18 2 dX3_readCells_17 rfl rfl mm2 ?_
  refine x_aloadn hP 19 0 dX3_readCells_18 rfl rfl mm0 ?_
  refine x_geti hP 22 dX3_readCells_19 rfl fl_RX3_93 hg.o (by decide) rfl ?_
  obtain ⟨hs1, hs2, h⟩ := h
  refine x_icmp hP 25 129 ((σ o 6) ≤ x2) dX3_readCells_22 rfl rfl hs1 hs2 rfl (fun hbr => ?_) (fun hbr => ?_)
  · replace h := h.1 hbr
    exact x_vret hP dX3_readCells_129 ⟨Nat.le_refl _, Nat.le_refl _⟩ h
  · replace h := h.2 hbr
    refine x_aloadn hP 26 0 dX3_readCells_25 rfl rfl mm0 ?_
    refine x_getr hP 29 (o + 1) dX3_readCells_26 rfl fl_RX3_9 hg.o (by decide) rfl hg.r1 ?_
    refine x_iloadn hP 30 2 dX3_readCells_29 rfl rfl mm2 ?_
    refine x_aloadn hP 31 1 dX3_readCells_30 rfl rfl mm1 ?_
    refine x_getr hP 34 (a + 1) dX3_readCells_31 rfl fl_RX3_109 ha.o (by decide) rfl ha.r1 ?_
    refine x_iloadn hP 35 2 dX3_readCells_34 rfl rfl mm2 ?_
    obtain ⟨hs, h⟩ := h
    refine x_iald hP 36 dX3_readCells_35 rfl ha.a1 (by decide) hs ?_
    obtain ⟨hs1, h⟩ := h
    refine x_iast hP 37 dX3_readCells_36 rfl hg.a1 (by decide) hs1 ?_
    exact h
theorem kk_X3_readCells_37 {d : Nat} {Q : pQ} {P : pP} {g : pG} {σ : pM} (hP : Clo (pCall d) yX3_readCells cX3_readCells none 3 0 0 Q P) (o : Nat) (a : Nat) (x2 : Int) (hg : gPl g o) (ha : gWl g a) (h : (0 ≤ x2 ∧ x2 < 9) ∧ P 52 [(0, vR (some o)), (1, vR (some a)), (2, vI x2)] [] g (up2 σ o 10 ((σ o 10) + (σ (o + 1) (Int.toNat x2)))) 0 0) : P 37 [(0, vR (some o)), (1, vR (some a)), (2, vI x2)] [] g σ 0 0 := by
  refine x_aloadn hP 38 0 dX3_readCells_37 rfl rfl mm0 ?_
  refine x_dup hP 39 dX3_readCells_38 rfl rfl ?_
  refine x_geti hP 42 dX3_readCells_39 rfl fl_RX3_59 hg.o (by decide) rfl ?_
  refine x_aloadn hP 43 0 dX3_readCells_42 rfl rfl mm0 ?_
  refine x_getr hP 46 (o + 1) dX3_readCells_43 rfl fl_RX3_9 hg.o (by decide) rfl hg.r1 ?_
  refine x_iloadn hP 47 2 dX3_readCells_46 rfl rfl mm2 ?_
  obtain ⟨hs, h⟩ := h
  refine x_iald hP 48 dX3_readCells_47 rfl hg.a1 (by decide) hs ?_
  refine x_iadd hP 49 dX3_readCells_48 rfl ?_
  refine x_putf hP 52 dX3_readCells_49 rfl fl_RX3_59 hg.o (by decide) rfl rfl (fun hz => absurd hz (by decide)) ?_
  exact h
theorem kk_X3_readCells_52 {d : Nat} {Q : pQ} {P : pP} {g : pG} {σ : pM} (hP : Clo (pCall d) yX3_readCells cX3_readCells none 3 0 0 Q P) (o : Nat) (a : Nat) (x2 : Int) (hg : gPl g o) (ha : gWl g a) (h : ∃ (v1 : Int), Ca d yX4_isPoured [vR (some a), vI x2] g σ [vI v1] g σ ∧ iR v1 ∧ (v1 = 0 → (0 ≤ x2 ∧ x2 < 9) ∧ P 93 [(0, vR (some o)), (1, vR (some a)), (2, vI x2)] [] g (up2 (up2 σ (o + 2) (Int.toNat x2) 1000000000) o 1 (((up2 σ (o + 2) (Int.toNat x2) 1000000000) o 1) + 1)) 0 0) ∧ (¬ (v1 = 0) → (0 ≤ x2 ∧ x2 < 9) ∧ (0 ≤ x2 ∧ x2 < 9) ∧ P 93 [(0, vR (some o)), (1, vR (some a)), (2, vI x2)] [] g (up2 σ (o + 2) (Int.toNat x2) (σ (a + 3) (Int.toNat x2))) 0 0)) : P 52 [(0, vR (some o)), (1, vR (some a)), (2, vI x2)] [] g σ 0 0 := by
  refine x_aloadn hP 53 1 dX3_readCells_52 rfl rfl mm1 ?_
  refine x_iloadn hP 54 2 dX3_readCells_53 rfl rfl mm2 ?_
  obtain ⟨v1, hc, h⟩ := h
  refine x_cv hP 57 [vI x2] [] dX3_readCells_54 rfl ha.o (by decide) rfl ml_RX3_110 im_X4_isPoured se_X4_isPoured it_RX4 pp_X4_isPoured bd_X4_isPoured rfl rfl ⟨Nat.le_refl _, Nat.le_refl _⟩ (by simp [pC]) hc ?_
  obtain ⟨hs1, h⟩ := h
  refine x_ifc hP 60 75 (v1 = 0) dX3_readCells_57 rfl rfl hs1 rfl (fun hbr => ?_) (fun hbr => ?_)
  · replace h := h.1 hbr
    refine x_aloadn hP 76 0 dX3_readCells_75 rfl rfl mm0 ?_
    refine x_getr hP 79 (o + 2) dX3_readCells_76 rfl fl_RX3_15 hg.o (by decide) rfl hg.r2 ?_
    refine x_iloadn hP 80 2 dX3_readCells_79 rfl rfl mm2 ?_
    refine x_ldc hP 82 dX3_readCells_80 rfl kc_RX3_55 ?_
    obtain ⟨hs1, h⟩ := h
    refine x_iast hP 83 dX3_readCells_82 rfl hg.a2 (by decide) hs1 ?_
    refine x_aloadn hP 84 0 dX3_readCells_83 rfl rfl mm0 ?_
    refine x_dup hP 85 dX3_readCells_84 rfl rfl ?_
    refine x_geti hP 88 dX3_readCells_85 rfl fl_RX3_42 hg.o (by decide) rfl ?_
    refine x_iconst hP 89 dX3_readCells_88 rfl ?_
    refine x_iadd hP 90 dX3_readCells_89 rfl ?_
    refine x_putf hP 93 dX3_readCells_90 rfl fl_RX3_42 hg.o (by decide) rfl rfl (fun hz => absurd hz (by decide)) ?_
    exact h
  · replace h := h.2 hbr
    refine x_aloadn hP 61 0 dX3_readCells_60 rfl rfl mm0 ?_
    refine x_getr hP 64 (o + 2) dX3_readCells_61 rfl fl_RX3_15 hg.o (by decide) rfl hg.r2 ?_
    refine x_iloadn hP 65 2 dX3_readCells_64 rfl rfl mm2 ?_
    refine x_aloadn hP 66 1 dX3_readCells_65 rfl rfl mm1 ?_
    refine x_getr hP 69 (a + 3) dX3_readCells_66 rfl fl_RX3_114 ha.o (by decide) rfl ha.r3 ?_
    refine x_iloadn hP 70 2 dX3_readCells_69 rfl rfl mm2 ?_
    obtain ⟨hs, h⟩ := h
    refine x_iald hP 71 dX3_readCells_70 rfl ha.a3 (by decide) hs ?_
    obtain ⟨hs1, h⟩ := h
    refine x_iast hP 72 dX3_readCells_71 rfl hg.a2 (by decide) hs1 ?_
    refine x_goto hP 93 dX3_readCells_72 rfl ?_
    exact h
theorem kk_X3_readCells_93 {d : Nat} {Q : pQ} {P : pP} {g : pG} {σ : pM} (hP : Clo (pCall d) yX3_readCells cX3_readCells none 3 0 0 Q P) (o : Nat) (a : Nat) (x2 : Int) (hg : gPl g o) (ha : gWl g a) (h : iR (x2 + (σ o 4)) ∧ iR (σ o 6) ∧ ((x2 + (σ o 4)) < (σ o 6) → P 123 [(0, vR (some o)), (1, vR (some a)), (2, vI x2)] [] g σ 0 0) ∧ (¬ ((x2 + (σ o 4)) < (σ o 6)) → (0 ≤ x2 ∧ x2 < 9) ∧ ∃ (v1 : Int), Ca d yJ9_min_7cf53 [vI (σ o 11), vI (σ (o + 1) (Int.toNat x2))] g σ [vI v1] g σ ∧ P 123 [(0, vR (some o)), (1, vR (some a)), (2, vI x2)] [] g (up2 σ o 11 v1) 0 0)) : P 93 [(0, vR (some o)), (1, vR (some a)), (2, vI x2)] [] g σ 0 0 := by
  refine x_iloadn hP 94 2 dX3_readCells_93 rfl rfl mm2 ?_
  refine x_aloadn hP 95 0 dX3_readCells_94 rfl rfl mm0 ?_
  refine x_geti hP 98 dX3_readCells_95 rfl fl_RX3_85 hg.o (by decide) rfl ?_
  refine x_iadd hP 99 dX3_readCells_98 rfl ?_
  refine x_aloadn hP 100 0 dX3_readCells_99 rfl rfl mm0 ?_
  refine x_geti hP 103 dX3_readCells_100 rfl fl_RX3_93 hg.o (by decide) rfl ?_
  obtain ⟨hs1, hs2, h⟩ := h
  refine x_icmp hP 106 123 ((x2 + (σ o 4)) < (σ o 6)) dX3_readCells_103 rfl rfl hs1 hs2 rfl (fun hbr => ?_) (fun hbr => ?_)
  · replace h := h.1 hbr
    exact h
  · replace h := h.2 hbr
    refine x_aloadn hP 107 0 dX3_readCells_106 rfl rfl mm0 ?_
    refine x_aloadn hP 108 0 dX3_readCells_107 rfl rfl mm0 ?_
    refine x_geti hP 111 dX3_readCells_108 rfl fl_RX3_106 hg.o (by decide) rfl ?_
    refine x_aloadn hP 112 0 dX3_readCells_111 rfl rfl mm0 ?_
    refine x_getr hP 115 (o + 1) dX3_readCells_112 rfl fl_RX3_9 hg.o (by decide) rfl hg.r1 ?_
    refine x_iloadn hP 116 2 dX3_readCells_115 rfl rfl mm2 ?_
    obtain ⟨hs, h⟩ := h
    refine x_iald hP 117 dX3_readCells_116 rfl hg.a1 (by decide) hs ?_
    obtain ⟨v1, hc, h⟩ := h
    refine x_cs hP 120 [vI (σ o 11), vI (σ (o + 1) (Int.toNat x2))] [vR (some o)] dX3_readCells_117 rfl ml_RX3_115 sm_J9_min_7cf53 it_RJ9 pp_J9_min_7cf53 bd_J9_min_7cf53 rfl rfl ⟨Nat.le_refl _, Nat.le_refl _⟩ (by simp [pC]) hc ?_
    refine x_putf hP 123 dX3_readCells_120 rfl fl_RX3_106 hg.o (by decide) rfl rfl (fun hz => absurd hz (by decide)) ?_
    exact h
theorem kk_X3_readCells_123 {d : Nat} {Q : pQ} {P : pP} {g : pG} {σ : pM} (hP : Clo (pCall d) yX3_readCells cX3_readCells none 3 0 0 Q P) (o : Nat) (a : Nat) (x2 : Int) (hg : gPl g o) (ha : gWl g a) (h : P 17 [(0, vR (some o)), (1, vR (some a)), (2, vI (x2 + 1))] [] g σ 0 0) : P 123 [(0, vR (some o)), (1, vR (some a)), (2, vI x2)] [] g σ 0 0 := by
  refine x_iinc hP 126 [(0, vR (some o)), (1, vR (some a)), (2, vI (x2 + 1))] dX3_readCells_123 rfl mm2 (by decide) rfl rfl ?_
  refine x_goto hP 17 dX3_readCells_126 rfl ?_
  exact h
theorem kk_X3_readWall_0 {d : Nat} {Q : pQ} {P : pP} {g : pG} {σ : pM} (hP : Clo (pCall d) yX3_readWall cX3_readWall none 2 0 0 Q P) (o : Nat) (a : Nat) (hg : gPl g o) (ha : gWl g a) (h : P 8 [(0, vR (some o)), (1, vR (some a))] [] g (up2 σ o 4 (σ a 0)) 0 0) : P 0 [(0, vR (some o)), (1, vR (some a))] [] g σ 0 0 := by
  refine x_aloadn hP 1 0 dX3_readWall_0 rfl rfl mm0 ?_
  refine x_aloadn hP 2 1 dX3_readWall_1 rfl rfl mm1 ?_
  refine x_geti hP 5 dX3_readWall_2 rfl fl_RX3_82 ha.o (by decide) rfl ?_
  refine x_putf hP 8 dX3_readWall_5 rfl fl_RX3_85 hg.o (by decide) rfl rfl (fun hz => absurd hz (by decide)) ?_
  exact h
theorem kk_X3_readWall_8 {d : Nat} {Q : pQ} {P : pP} {g : pG} {σ : pM} (hP : Clo (pCall d) yX3_readWall cX3_readWall none 2 0 0 Q P) (o : Nat) (a : Nat) (hg : gPl g o) (ha : gWl g a) (h : P 16 [(0, vR (some o)), (1, vR (some a))] [] g (up2 σ o 5 (σ a 1)) 0 0) : P 8 [(0, vR (some o)), (1, vR (some a))] [] g σ 0 0 := by
  refine x_aloadn hP 9 0 dX3_readWall_8 rfl rfl mm0 ?_
  refine x_aloadn hP 10 1 dX3_readWall_9 rfl rfl mm1 ?_
  refine x_geti hP 13 dX3_readWall_10 rfl fl_RX3_86 ha.o (by decide) rfl ?_
  refine x_putf hP 16 dX3_readWall_13 rfl fl_RX3_89 hg.o (by decide) rfl rfl (fun hz => absurd hz (by decide)) ?_
  exact h
theorem kk_X3_readWall_16 {d : Nat} {Q : pQ} {P : pP} {g : pG} {σ : pM} (hP : Clo (pCall d) yX3_readWall cX3_readWall none 2 0 0 Q P) (o : Nat) (a : Nat) (hg : gPl g o) (ha : gWl g a) (h : P 24 [(0, vR (some o)), (1, vR (some a))] [] g (up2 σ o 6 (σ a 2)) 0 0) : P 16 [(0, vR (some o)), (1, vR (some a))] [] g σ 0 0 := by
  refine x_aloadn hP 17 0 dX3_readWall_16 rfl rfl mm0 ?_
  refine x_aloadn hP 18 1 dX3_readWall_17 rfl rfl mm1 ?_
  refine x_geti hP 21 dX3_readWall_18 rfl fl_RX3_90 ha.o (by decide) rfl ?_
  refine x_putf hP 24 dX3_readWall_21 rfl fl_RX3_93 hg.o (by decide) rfl rfl (fun hz => absurd hz (by decide)) ?_
  exact h
theorem kk_X3_readWall_24 {d : Nat} {Q : pQ} {P : pP} {g : pG} {σ : pM} (hP : Clo (pCall d) yX3_readWall cX3_readWall none 2 0 0 Q P) (o : Nat) (a : Nat) (hg : gPl g o) (ha : gWl g a) (h : P 32 [(0, vR (some o)), (1, vR (some a))] [] g (up2 σ o 7 (σ a 4)) 0 0) : P 24 [(0, vR (some o)), (1, vR (some a))] [] g σ 0 0 := by
  refine x_aloadn hP 25 0 dX3_readWall_24 rfl rfl mm0 ?_
  refine x_aloadn hP 26 1 dX3_readWall_25 rfl rfl mm1 ?_
  refine x_geti hP 29 dX3_readWall_26 rfl fl_RX3_94 ha.o (by decide) rfl ?_
  refine x_putf hP 32 dX3_readWall_29 rfl fl_RX3_97 hg.o (by decide) rfl rfl (fun hz => absurd hz (by decide)) ?_
  exact h
theorem kk_X3_readWall_32 {d : Nat} {Q : pQ} {P : pP} {g : pG} {σ : pM} (hP : Clo (pCall d) yX3_readWall cX3_readWall none 2 0 0 Q P) (o : Nat) (a : Nat) (hg : gPl g o) (ha : gWl g a) (h : P 40 [(0, vR (some o)), (1, vR (some a))] [] g (up2 σ o 8 (σ a 5)) 0 0) : P 32 [(0, vR (some o)), (1, vR (some a))] [] g σ 0 0 := by
  refine x_aloadn hP 33 0 dX3_readWall_32 rfl rfl mm0 ?_
  refine x_aloadn hP 34 1 dX3_readWall_33 rfl rfl mm1 ?_
  refine x_geti hP 37 dX3_readWall_34 rfl fl_RX3_98 ha.o (by decide) rfl ?_
  refine x_putf hP 40 dX3_readWall_37 rfl fl_RX3_101 hg.o (by decide) rfl rfl (fun hz => absurd hz (by decide)) ?_
  exact h
theorem kk_X3_readWall_40 {d : Nat} {Q : pQ} {P : pP} {g : pG} {σ : pM} (hP : Clo (pCall d) yX3_readWall cX3_readWall none 2 0 0 Q P) (o : Nat) (a : Nat) (hg : gPl g o) (ha : gWl g a) (h : P 48 [] [] g (up2 σ o 9 (σ a 6)) 0 0) : P 40 [(0, vR (some o)), (1, vR (some a))] [] g σ 0 0 := by
  refine x_aloadn hP 41 0 dX3_readWall_40 rfl rfl mm0 ?_
  refine x_aloadn hP 42 1 dX3_readWall_41 rfl rfl mm1 ?_
  refine x_geti hP 45 dX3_readWall_42 rfl fl_RX3_102 ha.o (by decide) rfl ?_
  refine x_putf hP 48 dX3_readWall_45 rfl fl_RX3_105 hg.o (by decide) rfl rfl (fun hz => absurd hz (by decide)) ?_
  exact x_sub hP [] rfl h
theorem kk_X3_readWall_48 {d : Nat} {Q : pQ} {P : pP} {g : pG} {σ : pM} (hP : Clo (pCall d) yX3_readWall cX3_readWall none 2 0 0 Q P) (o : Nat) (a : Nat) (hg : gPl g o) (ha : gWl g a) (h : Q [] g σ) : P 48 [] [] g σ 0 0 := by
  exact x_vret hP dX3_readWall_48 ⟨Nat.le_refl _, Nat.le_refl _⟩ h
