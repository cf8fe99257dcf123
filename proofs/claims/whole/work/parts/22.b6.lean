/-! Walks, by program (wip/whole/gen.py) -/
theorem k_X6_in_0 {d : Nat} {Q : pQ} {P : pP} {g : pG} {σ : pM} (hP : Clo (pCall d) yX6_in cX6_in (some .boolean) 6 0 0 Q P) (a : Int) (b : Int) (c : Int) (h : (jR a ∧ jR b) ∧ iR (if b < a then 1 else if a = b then 0 else -1) ∧ ((if b < a then 1 else if a = b then 0 else -1) < 0 → Q [vI 0] g σ) ∧ (¬ ((if b < a then 1 else if a = b then 0 else -1) < 0) → (jR a ∧ jR c) ∧ iR (if c < a then 1 else if a = c then 0 else -1) ∧ (0 < (if c < a then 1 else if a = c then 0 else -1) → Q [vI 0] g σ) ∧ (¬ (0 < (if c < a then 1 else if a = c then 0 else -1)) → Q [vI 1] g σ))) : P 0 [(0, vJ a), (2, vJ b), (4, vJ c)] [] g σ 0 0 := by
  refine x_lloadn hP 1 0 dX6_in_0 rfl rfl mm0 ?_
  refine x_lloadn hP 2 2 dX6_in_1 rfl rfl mm1 ?_
  obtain ⟨hs, h⟩ := h
  refine x_lcmp hP 3 dX6_in_2 rfl hs.1 hs.2 ?_
  obtain ⟨hs1, h⟩ := h
  refine x_ifc hP 6 17 ((if b < a then 1 else if a = b then 0 else -1) < 0) dX6_in_3 rfl rfl hs1 rfl (fun hbr => ?_) (fun hbr => ?_)
  · replace h := h.1 hbr
    refine x_iconst hP 18 dX6_in_17 rfl ?_
    exact x_zret hP dX6_in_18 ⟨Nat.le_refl _, Nat.le_refl _⟩ (by decide) h
  · replace h := h.2 hbr
    refine x_lloadn hP 7 0 dX6_in_6 rfl rfl mm0 ?_
    refine x_lload hP 9 dX6_in_7 rfl mm2 ?_
    obtain ⟨hs, h⟩ := h
    refine x_lcmp hP 10 dX6_in_9 rfl hs.1 hs.2 ?_
    obtain ⟨hs1, h⟩ := h
    refine x_ifc hP 13 17 (0 < (if c < a then 1 else if a = c then 0 else -1)) dX6_in_10 rfl rfl hs1 rfl (fun hbr => ?_) (fun hbr => ?_)
    · replace h := h.1 hbr
      refine x_iconst hP 18 dX6_in_17 rfl ?_
      exact x_zret hP dX6_in_18 ⟨Nat.le_refl _, Nat.le_refl _⟩ (by decide) h
    · replace h := h.2 hbr
      refine x_iconst hP 14 dX6_in_13 rfl ?_
      refine x_goto hP 18 dX6_in_14 rfl ?_
      exact x_zret hP dX6_in_18 ⟨Nat.le_refl _, Nat.le_refl _⟩ (by decide) h
theorem k_X6_copy_0 {d : Nat} {Q : pQ} {P : pP} {g : pG} {σ : pM} (hP : Clo (pCall d) yX6_copy cX6_copy none 4 0 0 Q P) (a : Int) (b : Int) (hG : gAll g) (h : P 2 [(0, vR (some 166)), (1, vI a), (2, vI b), (3, vI 0)] [] g σ 0 0) : P 0 [(0, vR (some 166)), (1, vI a), (2, vI b)] [] g σ 0 0 := by
  refine x_iconst hP 1 dX6_copy_0 rfl ?_
  refine x_istoren hP 2 3 [(0, vR (some 166)), (1, vI a), (2, vI b), (3, vI 0)] dX6_copy_1 rfl rfl (by decide) rfl rfl ?_
  exact h
theorem k_X6_copy_2 {d : Nat} {Q : pQ} {P : pP} {g : pG} {σ : pM} (hP : Clo (pCall d) yX6_copy cX6_copy none 4 0 0 Q P) (x1 : Int) (x2 : Int) (x3 : Int) (hG : gAll g) (h : iR x3 ∧ (52 ≤ x3 → Q [] g σ) ∧ (¬ (52 ≤ x3) → (0 ≤ (x1 + x3) ∧ (x1 + x3) < 1300) ∧ (0 ≤ (x2 + x3) ∧ (x2 + x3) < 1300) ∧ P 2 [(0, vR (some 166)), (1, vI x1), (2, vI x2), (3, vI (x3 + 1))] [] g (up2 σ 167 (Int.toNat (x2 + x3)) (σ 167 (Int.toNat (x1 + x3)))) 0 0)) : P 2 [(0, vR (some 166)), (1, vI x1), (2, vI x2), (3, vI x3)] [] g σ 0 0 := by
  refine x_iloadn hP 3 3 dX6_copy_2 rfl rfl mm3 ?_
  refine x_bipush hP 5 dX6_copy_3 rfl (by decide) ?_
  obtain ⟨hs1, h⟩ := h
  refine x_icmp hP 8 30 (52 ≤ x3) dX6_copy_5 rfl rfl hs1 (by decide) rfl (fun hbr => ?_) (fun hbr => ?_)
  · replace h := h.1 hbr
    exact x_vret hP dX6_copy_30 ⟨Nat.le_refl _, Nat.le_refl _⟩ h
  · replace h := h.2 hbr
    refine x_aloadn hP 9 0 dX6_copy_8 rfl rfl mm0 ?_
    refine x_getr hP 12 167 dX6_copy_9 rfl fl_RX6_7 (hG.O_166) (by decide) rfl (hG.R_166_0) ?_
    refine x_iloadn hP 13 2 dX6_copy_12 rfl rfl mm2 ?_
    refine x_iloadn hP 14 3 dX6_copy_13 rfl rfl mm3 ?_
    refine x_iadd hP 15 dX6_copy_14 rfl ?_
    refine x_aloadn hP 16 0 dX6_copy_15 rfl rfl mm0 ?_
    refine x_getr hP 19 167 dX6_copy_16 rfl fl_RX6_7 (hG.O_166) (by decide) rfl (hG.R_166_0) ?_
    refine x_iloadn hP 20 1 dX6_copy_19 rfl rfl mm1 ?_
    refine x_iloadn hP 21 3 dX6_copy_20 rfl rfl mm3 ?_
    refine x_iadd hP 22 dX6_copy_21 rfl ?_
    obtain ⟨hs, h⟩ := h
    refine x_iald hP 23 dX6_copy_22 rfl (hG.A_167) (by decide) hs ?_
    obtain ⟨hs1, h⟩ := h
    refine x_iast hP 24 dX6_copy_23 rfl (hG.A_167) (by decide) hs1 ?_
    refine x_iinc hP 27 [(0, vR (some 166)), (1, vI x1), (2, vI x2), (3, vI (x3 + 1))] dX6_copy_24 rfl mm3 (by decide) rfl rfl ?_
    refine x_goto hP 2 dX6_copy_27 rfl ?_
    exact h
theorem k_X6_builds_0 {d : Nat} {Q : pQ} {P : pP} {g : pG} {σ : pM} (hP : Clo (pCall d) yX6_builds cX6_builds none 4 0 0 Q P) (a : Int) (b : Int) (hG : gAll g) (h : P 30 [(0, vR (some 166)), (3, vI 0)] [] g (up2 (up2 (up2 (up2 σ 167 0 a) 167 1 b) 167 2 0) 167 3 0) 0 0) : P 0 [(0, vR (some 166)), (1, vI a), (2, vI b)] [] g σ 0 0 := by
  refine x_aloadn hP 1 0 dX6_builds_0 rfl rfl mm0 ?_
  refine x_getr hP 4 167 dX6_builds_1 rfl fl_RX6_7 (hG.O_166) (by decide) rfl (hG.R_166_0) ?_
  refine x_iconst hP 5 dX6_builds_4 rfl ?_
  refine x_iloadn hP 6 1 dX6_builds_5 rfl rfl mm1 ?_
  refine x_iast hP 7 dX6_builds_6 rfl (hG.A_167) (by decide) (by decide) ?_
  refine x_aloadn hP 8 0 dX6_builds_7 rfl rfl mm0 ?_
  refine x_getr hP 11 167 dX6_builds_8 rfl fl_RX6_7 (hG.O_166) (by decide) rfl (hG.R_166_0) ?_
  refine x_iconst hP 12 dX6_builds_11 rfl ?_
  refine x_iloadn hP 13 2 dX6_builds_12 rfl rfl mm2 ?_
  refine x_iast hP 14 dX6_builds_13 rfl (hG.A_167) (by decide) (by decide) ?_
  refine x_aloadn hP 15 0 dX6_builds_14 rfl rfl mm0 ?_
  refine x_getr hP 18 167 dX6_builds_15 rfl fl_RX6_7 (hG.O_166) (by decide) rfl (hG.R_166_0) ?_
  refine x_iconst hP 19 dX6_builds_18 rfl ?_
  refine x_iconst hP 20 dX6_builds_19 rfl ?_
  refine x_iast hP 21 dX6_builds_20 rfl (hG.A_167) (by decide) (by decide) ?_
  refine x_aloadn hP 22 0 dX6_builds_21 rfl rfl mm0 ?_
  refine x_getr hP 25 167 dX6_builds_22 rfl fl_RX6_7 (hG.O_166) (by decide) rfl (hG.R_166_0) ?_
  refine x_iconst hP 26 dX6_builds_25 rfl ?_
  refine x_iconst hP 27 dX6_builds_26 rfl ?_
  refine x_iast hP 28 dX6_builds_27 rfl (hG.A_167) (by decide) (by decide) ?_
  refine x_iconst hP 29 dX6_builds_28 rfl ?_
  refine x_istoren hP 30 3 [(0, vR (some 166)), (1, vI a), (2, vI b), (3, vI 0)] dX6_builds_29 rfl rfl (by decide) rfl rfl ?_
  exact x_sub hP [0, 3] rfl h
theorem k_X6_builds_30 {d : Nat} {Q : pQ} {P : pP} {g : pG} {σ : pM} (hP : Clo (pCall d) yX6_builds cX6_builds none 4 0 0 Q P) (x3 : Int) (hG : gAll g) (h : iR x3 ∧ (9 ≤ x3 → Q [] g σ) ∧ (¬ (9 ≤ x3) → (0 ≤ (25 + x3) ∧ (25 + x3) < 1300) ∧ (0 ≤ (34 + x3) ∧ (34 + x3) < 1300) ∧ (0 ≤ (43 + x3) ∧ (43 + x3) < 1300) ∧ P 30 [(0, vR (some 166)), (3, vI (x3 + 1))] [] g (up2 (up2 (up2 σ 167 (Int.toNat (25 + x3)) 1) 167 (Int.toNat (34 + x3)) ((-1))) 167 (Int.toNat (43 + x3)) ((-1))) 0 0)) : P 30 [(0, vR (some 166)), (3, vI x3)] [] g σ 0 0 := by
  refine x_iloadn hP 31 3 dX6_builds_30 rfl rfl mm1 ?_
  refine x_bipush hP 33 dX6_builds_31 rfl (by decide) ?_
  obtain ⟨hs1, h⟩ := h
  refine x_icmp hP 36 72 (9 ≤ x3) dX6_builds_33 rfl rfl hs1 (by decide) rfl (fun hbr => ?_) (fun hbr => ?_)
  · replace h := h.1 hbr
    exact x_vret hP dX6_builds_72 ⟨Nat.le_refl _, Nat.le_refl _⟩ h
  · replace h := h.2 hbr
    refine x_aloadn hP 37 0 dX6_builds_36 rfl rfl mm0 ?_
    refine x_getr hP 40 167 dX6_builds_37 rfl fl_RX6_7 (hG.O_166) (by decide) rfl (hG.R_166_0) ?_
    refine x_bipush hP 42 dX6_builds_40 rfl (by decide) ?_
    refine x_iloadn hP 43 3 dX6_builds_42 rfl rfl mm1 ?_
    refine x_iadd hP 44 dX6_builds_43 rfl ?_
    refine x_iconst hP 45 dX6_builds_44 rfl ?_
    obtain ⟨hs1, h⟩ := h
    refine x_iast hP 46 dX6_builds_45 rfl (hG.A_167) (by decide) hs1 ?_
    refine x_aloadn hP 47 0 dX6_builds_46 rfl rfl mm0 ?_
    refine x_getr hP 50 167 dX6_builds_47 rfl fl_RX6_7 (hG.O_166) (by decide) rfl (hG.R_166_0) ?_
    refine x_bipush hP 52 dX6_builds_50 rfl (by decide) ?_
    refine x_iloadn hP 53 3 dX6_builds_52 rfl rfl mm1 ?_
    refine x_iadd hP 54 dX6_builds_53 rfl ?_
    refine x_iconst hP 55 dX6_builds_54 rfl ?_
    obtain ⟨hs1, h⟩ := h
    refine x_iast hP 56 dX6_builds_55 rfl (hG.A_167) (by decide) hs1 ?_
    refine x_aloadn hP 57 0 dX6_builds_56 rfl rfl mm0 ?_
    refine x_getr hP 60 167 dX6_builds_57 rfl fl_RX6_7 (hG.O_166) (by decide) rfl (hG.R_166_0) ?_
    refine x_bipush hP 62 dX6_builds_60 rfl (by decide) ?_
    refine x_iloadn hP 63 3 dX6_builds_62 rfl rfl mm1 ?_
    refine x_iadd hP 64 dX6_builds_63 rfl ?_
    refine x_iconst hP 65 dX6_builds_64 rfl ?_
    obtain ⟨hs1, h⟩ := h
    refine x_iast hP 66 dX6_builds_65 rfl (hG.A_167) (by decide) hs1 ?_
    refine x_iinc hP 69 [(0, vR (some 166)), (3, vI (x3 + 1))] dX6_builds_66 rfl mm1 (by decide) rfl rfl ?_
    refine x_goto hP 30 dX6_builds_69 rfl ?_
    exact h
theorem k_X6_minds_0 {d : Nat} {Q : pQ} {P : pP} {g : pG} {σ : pM} (hP : Clo (pCall d) yX6_minds cX6_minds none 2 0 0 Q P) (hG : gAll g) (h : iR (σ 166 3) ∧ (¬ (σ 166 3) = 20 → ∃ (s1 : pM), Ca d yX6_copy [vR (some 166), vI 0, vI (260 + (52 * (σ 166 3)))] g σ [] g s1 ∧ Q [] g (up2 s1 166 3 ((s1 166 3) + 1))) ∧ (¬ (¬ (σ 166 3) = 20) → P 11 [(0, vR (some 166)), (1, vI 0)] [] g σ 0 0)) : P 0 [(0, vR (some 166))] [] g σ 0 0 := by
  refine x_aloadn hP 1 0 dX6_minds_0 rfl rfl mm0 ?_
  refine x_geti hP 4 dX6_minds_1 rfl fl_RX6_39 (hG.O_166) (by decide) rfl ?_
  refine x_bipush hP 6 dX6_minds_4 rfl (by decide) ?_
  obtain ⟨hs1, h⟩ := h
  refine x_icmp hP 9 57 (¬ (σ 166 3) = 20) dX6_minds_6 rfl rfl hs1 (by decide) rfl (fun hbr => ?_) (fun hbr => ?_)
  · replace h := h.1 hbr
    refine x_aloadn hP 58 0 dX6_minds_57 rfl rfl mm0 ?_
    refine x_iconst hP 59 dX6_minds_58 rfl ?_
    refine x_sipush hP 62 dX6_minds_59 rfl (by decide) ?_
    refine x_bipush hP 64 dX6_minds_62 rfl (by decide) ?_
    refine x_aloadn hP 65 0 dX6_minds_64 rfl rfl mm0 ?_
    refine x_geti hP 68 dX6_minds_65 rfl fl_RX6_39 (hG.O_166) (by decide) rfl ?_
    refine x_imul hP 69 dX6_minds_68 rfl ?_
    refine x_iadd hP 70 dX6_minds_69 rfl ?_
    obtain ⟨s1, hc, h⟩ := h
    refine x_cv hP 73 [vI 0, vI (260 + (52 * (σ 166 3)))] [] dX6_minds_70 rfl (hG.O_166) (by decide) rfl ml_RX6_43 im_X6_copy se_X6_copy it_RX6 pp_X6_copy bd_X6_copy rfl rfl ⟨Nat.le_refl _, Nat.le_refl _⟩ (by simp [pC]) hc ?_
    refine x_aloadn hP 74 0 dX6_minds_73 rfl rfl mm0 ?_
    refine x_dup hP 75 dX6_minds_74 rfl rfl ?_
    refine x_geti hP 78 dX6_minds_75 rfl fl_RX6_39 (hG.O_166) (by decide) rfl ?_
    refine x_iconst hP 79 dX6_minds_78 rfl ?_
    refine x_iadd hP 80 dX6_minds_79 rfl ?_
    refine x_putf hP 83 dX6_minds_80 rfl fl_RX6_39 (hG.O_166) (by decide) rfl rfl (fun hz => absurd hz (by decide)) ?_
    exact x_vret hP dX6_minds_83 ⟨Nat.le_refl _, Nat.le_refl _⟩ h
  · replace h := h.2 hbr
    refine x_iconst hP 10 dX6_minds_9 rfl ?_
    refine x_istoren hP 11 1 [(0, vR (some 166)), (1, vI 0)] dX6_minds_10 rfl rfl (by decide) rfl rfl ?_
    exact h
theorem k_X6_minds_11 {d : Nat} {Q : pQ} {P : pP} {g : pG} {σ : pM} (hP : Clo (pCall d) yX6_minds cX6_minds none 2 0 0 Q P) (x1 : Int) (hG : gAll g) (h : iR x1 ∧ (988 ≤ x1 → ∃ (s1 : pM), Ca d yX6_copy [vR (some 166), vI 0, vI (260 + (52 * ((up2 σ 166 3 ((σ 166 3) - 1)) 166 3)))] g (up2 σ 166 3 ((σ 166 3) - 1)) [] g s1 ∧ Q [] g (up2 s1 166 3 ((s1 166 3) + 1))) ∧ (¬ (988 ≤ x1) → (0 ≤ ((260 + x1) + 52) ∧ ((260 + x1) + 52) < 1300) ∧ (0 ≤ (260 + x1) ∧ (260 + x1) < 1300) ∧ P 11 [(0, vR (some 166)), (1, vI (x1 + 1))] [] g (up2 σ 167 (Int.toNat (260 + x1)) (σ 167 (Int.toNat ((260 + x1) + 52)))) 0 0)) : P 11 [(0, vR (some 166)), (1, vI x1)] [] g σ 0 0 := by
  refine x_iloadn hP 12 1 dX6_minds_11 rfl rfl mm1 ?_
  refine x_sipush hP 15 dX6_minds_12 rfl (by decide) ?_
  obtain ⟨hs1, h⟩ := h
  refine x_icmp hP 18 47 (988 ≤ x1) dX6_minds_15 rfl rfl hs1 (by decide) rfl (fun hbr => ?_) (fun hbr => ?_)
  · replace h := h.1 hbr
    refine x_aloadn hP 48 0 dX6_minds_47 rfl rfl mm0 ?_
    refine x_dup hP 49 dX6_minds_48 rfl rfl ?_
    refine x_geti hP 52 dX6_minds_49 rfl fl_RX6_39 (hG.O_166) (by decide) rfl ?_
    refine x_iconst hP 53 dX6_minds_52 rfl ?_
    refine x_isub hP 54 dX6_minds_53 rfl ?_
    refine x_putf hP 57 dX6_minds_54 rfl fl_RX6_39 (hG.O_166) (by decide) rfl rfl (fun hz => absurd hz (by decide)) ?_
    refine x_aloadn hP 58 0 dX6_minds_57 rfl rfl mm0 ?_
    refine x_iconst hP 59 dX6_minds_58 rfl ?_
    refine x_sipush hP 62 dX6_minds_59 rfl (by decide) ?_
    refine x_bipush hP 64 dX6_minds_62 rfl (by decide) ?_
    refine x_aloadn hP 65 0 dX6_minds_64 rfl rfl mm0 ?_
    refine x_geti hP 68 dX6_minds_65 rfl fl_RX6_39 (hG.O_166) (by decide) rfl ?_
    refine x_imul hP 69 dX6_minds_68 rfl ?_
    refine x_iadd hP 70 dX6_minds_69 rfl ?_
    obtain ⟨s1, hc, h⟩ := h
    refine x_cv hP 73 [vI 0, vI (260 + (52 * ((up2 σ 166 3 ((σ 166 3) - 1)) 166 3)))] [] dX6_minds_70 rfl (hG.O_166) (by decide) rfl ml_RX6_43 im_X6_copy se_X6_copy it_RX6 pp_X6_copy bd_X6_copy rfl rfl ⟨Nat.le_refl _, Nat.le_refl _⟩ (by simp [pC]) hc ?_
    refine x_aloadn hP 74 0 dX6_minds_73 rfl rfl mm0 ?_
    refine x_dup hP 75 dX6_minds_74 rfl rfl ?_
    refine x_geti hP 78 dX6_minds_75 rfl fl_RX6_39 (hG.O_166) (by decide) rfl ?_
    refine x_iconst hP 79 dX6_minds_78 rfl ?_
    refine x_iadd hP 80 dX6_minds_79 rfl ?_
    refine x_putf hP 83 dX6_minds_80 rfl fl_RX6_39 (hG.O_166) (by decide) rfl rfl (fun hz => absurd hz (by decide)) ?_
    exact x_vret hP dX6_minds_83 ⟨Nat.le_refl _, Nat.le_refl _⟩ h
  · replace h := h.2 hbr
    refine x_aloadn hP 19 0 dX6_minds_18 rfl rfl mm0 ?_
    refine x_getr hP 22 167 dX6_minds_19 rfl fl_RX6_7 (hG.O_166) (by decide) rfl (hG.R_166_0) ?_
    refine x_sipush hP 25 dX6_minds_22 rfl (by decide) ?_
    refine x_iloadn hP 26 1 dX6_minds_25 rfl rfl mm1 ?_
    refine x_iadd hP 27 dX6_minds_26 rfl ?_
    refine x_aloadn hP 28 0 dX6_minds_27 rfl rfl mm0 ?_
    refine x_getr hP 31 167 dX6_minds_28 rfl fl_RX6_7 (hG.O_166) (by decide) rfl (hG.R_166_0) ?_
    refine x_sipush hP 34 dX6_minds_31 rfl (by decide) ?_
    refine x_iloadn hP 35 1 dX6_minds_34 rfl rfl mm1 ?_
    refine x_iadd hP 36 dX6_minds_35 rfl ?_
    refine x_bipush hP 38 dX6_minds_36 rfl (by decide) ?_
    refine x_iadd hP 39 dX6_minds_38 rfl ?_
    obtain ⟨hs, h⟩ := h
    refine x_iald hP 40 dX6_minds_39 rfl (hG.A_167) (by decide) hs ?_
    obtain ⟨hs1, h⟩ := h
    refine x_iast hP 41 dX6_minds_40 rfl (hG.A_167) (by decide) hs1 ?_
    refine x_iinc hP 44 [(0, vR (some 166)), (1, vI (x1 + 1))] dX6_minds_41 rfl mm1 (by decide) rfl rfl ?_
    refine x_goto hP 11 dX6_minds_44 rfl ?_
    exact h
theorem k_X6_cells_0 {d : Nat} {Q : pQ} {P : pP} {g : pG} {σ : pM} (hP : Clo (pCall d) yX6_cells cX6_cells (some .int) 1 0 0 Q P) (hG : gAll g) (h : Q [vI ((σ 167 0) * (σ 167 1))] g σ) : P 0 [(0, vR (some 166))] [] g σ 0 0 := by
  refine x_aloadn hP 1 0 dX6_cells_0 rfl rfl mm0 ?_
  refine x_getr hP 4 167 dX6_cells_1 rfl fl_RX6_7 (hG.O_166) (by decide) rfl (hG.R_166_0) ?_
  refine x_iconst hP 5 dX6_cells_4 rfl ?_
  refine x_iald hP 6 dX6_cells_5 rfl (hG.A_167) (by decide) (by decide) ?_
  refine x_aloadn hP 7 0 dX6_cells_6 rfl rfl mm0 ?_
  refine x_getr hP 10 167 dX6_cells_7 rfl fl_RX6_7 (hG.O_166) (by decide) rfl (hG.R_166_0) ?_
  refine x_iconst hP 11 dX6_cells_10 rfl ?_
  refine x_iald hP 12 dX6_cells_11 rfl (hG.A_167) (by decide) (by decide) ?_
  refine x_imul hP 13 dX6_cells_12 rfl ?_
  exact x_iret hP dX6_cells_13 ⟨Nat.le_refl _, Nat.le_refl _⟩ h
theorem k_X6_isCell_0 {d : Nat} {Q : pQ} {P : pP} {g : pG} {σ : pM} (hP : Clo (pCall d) yX6_isCell cX6_isCell (some .boolean) 2 0 0 Q P) (a : Int) (hG : gAll g) (h : iR a ∧ ∃ (v1 : Int), Ca d yX6_cells [vR (some 166)] g σ [vI v1] g σ ∧ iR (v1 - 1) ∧ ∃ (v2 : Int), Ca d yX6_in [vJ a, vJ 0, vJ (v1 - 1)] g σ [vI v2] g σ ∧ (v2 = 0 ∨ v2 = 1) ∧ Q [vI v2] g σ) : P 0 [(0, vR (some 166)), (1, vI a)] [] g σ 0 0 := by
  refine x_iloadn hP 1 1 dX6_isCell_0 rfl rfl mm1 ?_
  obtain ⟨hs, h⟩ := h
  refine x_i2l hP 2 dX6_isCell_1 rfl hs ?_
  refine x_lconst hP 3 dX6_isCell_2 rfl ?_
  refine x_aloadn hP 4 0 dX6_isCell_3 rfl rfl mm0 ?_
  obtain ⟨v1, hc, h⟩ := h
  refine x_cv hP 7 [] [vJ 0, vJ a] dX6_isCell_4 rfl (hG.O_166) (by decide) rfl ml_RX6_46 im_X6_cells se_X6_cells it_RX6 pp_X6_cells bd_X6_cells rfl rfl ⟨Nat.le_refl _, Nat.le_refl _⟩ (by simp [pC]) hc ?_
  refine x_iconst hP 8 dX6_isCell_7 rfl ?_
  refine x_isub hP 9 dX6_isCell_8 rfl ?_
  obtain ⟨hs, h⟩ := h
  refine x_i2l hP 10 dX6_isCell_9 rfl hs ?_
  obtain ⟨v2, hc, h⟩ := h
  refine x_cs hP 13 [vJ a, vJ 0, vJ (v1 - 1)] [] dX6_isCell_10 rfl ml_RX6_50 sm_X6_in it_RX6 pp_X6_in bd_X6_in rfl rfl ⟨Nat.le_refl _, Nat.le_refl _⟩ (by simp [pC]) hc ?_
  exact x_zret hP dX6_isCell_13 ⟨Nat.le_refl _, Nat.le_refl _⟩ h.1 h.2
theorem k_X6_isTruck_0 {d : Nat} {Q : pQ} {P : pP} {g : pG} {σ : pM} (hP : Clo (pCall d) yX6_isTruck cX6_isTruck (some .boolean) 2 0 0 Q P) (a : Int) (hG : gAll g) (h : iR a ∧ iR ((σ 167 3) - 1) ∧ ∃ (v1 : Int), Ca d yX6_in [vJ a, vJ 0, vJ ((σ 167 3) - 1)] g σ [vI v1] g σ ∧ (v1 = 0 ∨ v1 = 1) ∧ Q [vI v1] g σ) : P 0 [(0, vR (some 166)), (1, vI a)] [] g σ 0 0 := by
  refine x_iloadn hP 1 1 dX6_isTruck_0 rfl rfl mm1 ?_
  obtain ⟨hs, h⟩ := h
  refine x_i2l hP 2 dX6_isTruck_1 rfl hs ?_
  refine x_lconst hP 3 dX6_isTruck_2 rfl ?_
  refine x_aloadn hP 4 0 dX6_isTruck_3 rfl rfl mm0 ?_
  refine x_getr hP 7 167 dX6_isTruck_4 rfl fl_RX6_7 (hG.O_166) (by decide) rfl (hG.R_166_0) ?_
  refine x_iconst hP 8 dX6_isTruck_7 rfl ?_
  refine x_iald hP 9 dX6_isTruck_8 rfl (hG.A_167) (by decide) (by decide) ?_
  refine x_iconst hP 10 dX6_isTruck_9 rfl ?_
  refine x_isub hP 11 dX6_isTruck_10 rfl ?_
  obtain ⟨hs, h⟩ := h
  refine x_i2l hP 12 dX6_isTruck_11 rfl hs ?_
  obtain ⟨v1, hc, h⟩ := h
  refine x_cs hP 15 [vJ a, vJ 0, vJ ((σ 167 3) - 1)] [] dX6_isTruck_12 rfl ml_RX6_50 sm_X6_in it_RX6 pp_X6_in bd_X6_in rfl rfl ⟨Nat.le_refl _, Nat.le_refl _⟩ (by simp [pC]) hc ?_
  exact x_zret hP dX6_isTruck_15 ⟨Nat.le_refl _, Nat.le_refl _⟩ h.1 h.2
theorem k_X6_isPoured_0 {d : Nat} {Q : pQ} {P : pP} {g : pG} {σ : pM} (hP : Clo (pCall d) yX6_isPoured cX6_isPoured (some .boolean) 3 0 0 Q P) (a : Int) (b : Int) (hG : gAll g) (h : (0 ≤ ((a + 43) + b) ∧ ((a + 43) + b) < 1300) ∧ iR (σ 167 (Int.toNat ((a + 43) + b))) ∧ ((σ 167 (Int.toNat ((a + 43) + b))) = ((-1)) → Q [vI 0] g σ) ∧ (¬ ((σ 167 (Int.toNat ((a + 43) + b))) = ((-1))) → Q [vI 1] g σ)) : P 0 [(0, vR (some 166)), (1, vI a), (2, vI b)] [] g σ 0 0 := by
  refine x_aloadn hP 1 0 dX6_isPoured_0 rfl rfl mm0 ?_
  refine x_getr hP 4 167 dX6_isPoured_1 rfl fl_RX6_7 (hG.O_166) (by decide) rfl (hG.R_166_0) ?_
  refine x_iloadn hP 5 1 dX6_isPoured_4 rfl rfl mm1 ?_
  refine x_bipush hP 7 dX6_isPoured_5 rfl (by decide) ?_
  refine x_iadd hP 8 dX6_isPoured_7 rfl ?_
  refine x_iloadn hP 9 2 dX6_isPoured_8 rfl rfl mm2 ?_
  refine x_iadd hP 10 dX6_isPoured_9 rfl ?_
  obtain ⟨hs, h⟩ := h
  refine x_iald hP 11 dX6_isPoured_10 rfl (hG.A_167) (by decide) hs ?_
  refine x_iconst hP 12 dX6_isPoured_11 rfl ?_
  obtain ⟨hs1, h⟩ := h
  refine x_icmp hP 15 19 ((σ 167 (Int.toNat ((a + 43) + b))) = ((-1))) dX6_isPoured_12 rfl rfl hs1 (by decide) rfl (fun hbr => ?_) (fun hbr => ?_)
  · replace h := h.1 hbr
    refine x_iconst hP 20 dX6_isPoured_19 rfl ?_
    exact x_zret hP dX6_isPoured_20 ⟨Nat.le_refl _, Nat.le_refl _⟩ (by decide) h
  · replace h := h.2 hbr
    refine x_iconst hP 16 dX6_isPoured_15 rfl ?_
    refine x_goto hP 20 dX6_isPoured_16 rfl ?_
    exact x_zret hP dX6_isPoured_20 ⟨Nat.le_refl _, Nat.le_refl _⟩ (by decide) h
theorem k_X6_used_0 {d : Nat} {Q : pQ} {P : pP} {g : pG} {σ : pM} (hP : Clo (pCall d) yX6_used cX6_used (some .int) 4 0 0 Q P) (a : Int) (hG : gAll g) (h : P 4 [(0, vR (some 166)), (1, vI a), (2, vI 0), (3, vI 0)] [] g σ 0 0) : P 0 [(0, vR (some 166)), (1, vI a)] [] g σ 0 0 := by
  refine x_iconst hP 1 dX6_used_0 rfl ?_
  refine x_istoren hP 2 2 [(0, vR (some 166)), (1, vI a), (2, vI 0)] dX6_used_1 rfl rfl (by decide) rfl rfl ?_
  refine x_iconst hP 3 dX6_used_2 rfl ?_
  refine x_istoren hP 4 3 [(0, vR (some 166)), (1, vI a), (2, vI 0), (3, vI 0)] dX6_used_3 rfl rfl (by decide) rfl rfl ?_
  exact h
theorem k_X6_used_4 {d : Nat} {Q : pQ} {P : pP} {g : pG} {σ : pM} (hP : Clo (pCall d) yX6_used cX6_used (some .int) 4 0 0 Q P) (x1 : Int) (x2 : Int) (x3 : Int) (hG : gAll g) (h : iR x3 ∧ (9 ≤ x3 → Q [vI x2] g σ) ∧ (¬ (9 ≤ x3) → ∃ (v1 : Int), Ca d yX6_isPoured [vR (some 166), vI x1, vI x3] g σ [vI v1] g σ ∧ iR v1 ∧ (v1 = 0 → P 4 [(0, vR (some 166)), (1, vI x1), (2, vI (x2 + 0)), (3, vI (x3 + 1))] [] g σ 0 0) ∧ (¬ (v1 = 0) → (0 ≤ ((x1 + 25) + x3) ∧ ((x1 + 25) + x3) < 1300) ∧ P 4 [(0, vR (some 166)), (1, vI x1), (2, vI (x2 + (σ 167 (Int.toNat ((x1 + 25) + x3))))), (3, vI (x3 + 1))] [] g σ 0 0))) : P 4 [(0, vR (some 166)), (1, vI x1), (2, vI x2), (3, vI x3)] [] g σ 0 0 := by
  refine x_iloadn hP 5 3 dX6_used_4 rfl rfl mm3 ?_
  refine x_bipush hP 7 dX6_used_5 rfl (by decide) ?_
  obtain ⟨hs1, h⟩ := h
  refine x_icmp hP 10 43 (9 ≤ x3) dX6_used_7 rfl rfl hs1 (by decide) rfl (fun hbr => ?_) (fun hbr => ?_)
  · replace h := h.1 hbr
    refine x_iloadn hP 44 2 dX6_used_43 rfl rfl mm2 ?_
    exact x_iret hP dX6_used_44 ⟨Nat.le_refl _, Nat.le_refl _⟩ h
  · replace h := h.2 hbr
    refine x_iloadn hP 11 2 dX6_used_10 rfl rfl mm2 ?_
    refine x_aloadn hP 12 0 dX6_used_11 rfl rfl mm0 ?_
    refine x_iloadn hP 13 1 dX6_used_12 rfl rfl mm1 ?_
    refine x_iloadn hP 14 3 dX6_used_13 rfl rfl mm3 ?_
    obtain ⟨v1, hc, h⟩ := h
    refine x_cv hP 17 [vI x1, vI x3] [vI x2] dX6_used_14 rfl (hG.O_166) (by decide) rfl ml_RX6_54 im_X6_isPoured se_X6_isPoured it_RX6 pp_X6_isPoured bd_X6_isPoured rfl rfl ⟨Nat.le_refl _, Nat.le_refl _⟩ (by simp [pC]) hc ?_
    obtain ⟨hs1, h⟩ := h
    refine x_ifc hP 20 34 (v1 = 0) dX6_used_17 rfl rfl hs1 rfl (fun hbr => ?_) (fun hbr => ?_)
    · replace h := h.1 hbr
      refine x_iconst hP 35 dX6_used_34 rfl ?_
      refine x_iadd hP 36 dX6_used_35 rfl ?_
      refine x_istoren hP 37 2 [(0, vR (some 166)), (1, vI x1), (2, vI (x2 + 0)), (3, vI x3)] dX6_used_36 rfl rfl (by decide) rfl rfl ?_
      refine x_iinc hP 40 [(0, vR (some 166)), (1, vI x1), (2, vI (x2 + 0)), (3, vI (x3 + 1))] dX6_used_37 rfl mm3 (by decide) rfl rfl ?_
      refine x_goto hP 4 dX6_used_40 rfl ?_
      exact h
    · replace h := h.2 hbr
      refine x_aloadn hP 21 0 dX6_used_20 rfl rfl mm0 ?_
      refine x_getr hP 24 167 dX6_used_21 rfl fl_RX6_7 (hG.O_166) (by decide) rfl (hG.R_166_0) ?_
      refine x_iloadn hP 25 1 dX6_used_24 rfl rfl mm1 ?_
      refine x_bipush hP 27 dX6_used_25 rfl (by decide) ?_
      refine x_iadd hP 28 dX6_used_27 rfl ?_
      refine x_iloadn hP 29 3 dX6_used_28 rfl rfl mm3 ?_
      refine x_iadd hP 30 dX6_used_29 rfl ?_
      obtain ⟨hs, h⟩ := h
      refine x_iald hP 31 dX6_used_30 rfl (hG.A_167) (by decide) hs ?_
      refine x_goto hP 35 dX6_used_31 rfl ?_
      refine x_iadd hP 36 dX6_used_35 rfl ?_
      refine x_istoren hP 37 2 [(0, vR (some 166)), (1, vI x1), (2, vI (x2 + (σ 167 (Int.toNat ((x1 + 25) + x3))))), (3, vI x3)] dX6_used_36 rfl rfl (by decide) rfl rfl ?_
      refine x_iinc hP 40 [(0, vR (some 166)), (1, vI x1), (2, vI (x2 + (σ 167 (Int.toNat ((x1 + 25) + x3))))), (3, vI (x3 + 1))] dX6_used_37 rfl mm3 (by decide) rfl rfl ?_
      refine x_goto hP 4 dX6_used_40 rfl ?_
      exact h
theorem k_X6_brought_0 {d : Nat} {Q : pQ} {P : pP} {g : pG} {σ : pM} (hP : Clo (pCall d) yX6_brought cX6_brought (some .int) 5 0 0 Q P) (a : Int) (b : Int) (hG : gAll g) (h : P 5 [(0, vR (some 166)), (1, vI a), (2, vI b), (3, vI 0), (4, vI 0)] [] g σ 0 0) : P 0 [(0, vR (some 166)), (1, vI a), (2, vI b)] [] g σ 0 0 := by
  refine x_iconst hP 1 dX6_brought_0 rfl ?_
  refine x_istoren hP 2 3 [(0, vR (some 166)), (1, vI a), (2, vI b), (3, vI 0)] dX6_brought_1 rfl rfl (by decide) rfl rfl ?_
  refine x_iconst hP 3 dX6_brought_2 rfl ?_
  refine x_istore hP 5 [(0, vR (some 166)), (1, vI a), (2, vI b), (3, vI 0), (4, vI 0)] dX6_brought_3 rfl (by decide) rfl rfl ?_
  exact h
theorem k_X6_brought_5 {d : Nat} {Q : pQ} {P : pP} {g : pG} {σ : pM} (hP : Clo (pCall d) yX6_brought cX6_brought (some .int) 5 0 0 Q P) (x1 : Int) (x2 : Int) (x3 : Int) (x4 : Int) (hG : gAll g) (h : (0 ≤ (x1 + 3) ∧ (x1 + 3) < 1300) ∧ iR x4 ∧ iR (σ 167 (Int.toNat (x1 + 3))) ∧ ((σ 167 (Int.toNat (x1 + 3))) ≤ x4 → Q [vI x3] g σ) ∧ (¬ ((σ 167 (Int.toNat (x1 + 3))) ≤ x4) → (0 ≤ ((x1 + 7) + x4) ∧ ((x1 + 7) + x4) < 1300) ∧ iR (σ 167 (Int.toNat ((x1 + 7) + x4))) ∧ iR x2 ∧ (x2 < (σ 167 (Int.toNat ((x1 + 7) + x4))) → P 5 [(0, vR (some 166)), (1, vI x1), (2, vI x2), (3, vI (x3 + 0)), (4, vI (x4 + 1))] [] g σ 0 0) ∧ (¬ (x2 < (σ 167 (Int.toNat ((x1 + 7) + x4)))) → (0 ≤ ((x1 + 16) + x4) ∧ ((x1 + 16) + x4) < 1300) ∧ P 5 [(0, vR (some 166)), (1, vI x1), (2, vI x2), (3, vI (x3 + (σ 167 (Int.toNat ((x1 + 16) + x4))))), (4, vI (x4 + 1))] [] g σ 0 0))) : P 5 [(0, vR (some 166)), (1, vI x1), (2, vI x2), (3, vI x3), (4, vI x4)] [] g σ 0 0 := by
  refine x_iload hP 7 dX6_brought_5 rfl mm4 ?_
  refine x_aloadn hP 8 0 dX6_brought_7 rfl rfl mm0 ?_
  refine x_getr hP 11 167 dX6_brought_8 rfl fl_RX6_7 (hG.O_166) (by decide) rfl (hG.R_166_0) ?_
  refine x_iloadn hP 12 1 dX6_brought_11 rfl rfl mm1 ?_
  refine x_iconst hP 13 dX6_brought_12 rfl ?_
  refine x_iadd hP 14 dX6_brought_13 rfl ?_
  obtain ⟨hs, h⟩ := h
  refine x_iald hP 15 dX6_brought_14 rfl (hG.A_167) (by decide) hs ?_
  obtain ⟨hs1, hs2, h⟩ := h
  refine x_icmp hP 18 59 ((σ 167 (Int.toNat (x1 + 3))) ≤ x4) dX6_brought_15 rfl rfl hs1 hs2 rfl (fun hbr => ?_) (fun hbr => ?_)
  · replace h := h.1 hbr
    refine x_iloadn hP 60 3 dX6_brought_59 rfl rfl mm3 ?_
    exact x_iret hP dX6_brought_60 ⟨Nat.le_refl _, Nat.le_refl _⟩ h
  · replace h := h.2 hbr
    refine x_iloadn hP 19 3 dX6_brought_18 rfl rfl mm3 ?_
    refine x_aloadn hP 20 0 dX6_brought_19 rfl rfl mm0 ?_
    refine x_getr hP 23 167 dX6_brought_20 rfl fl_RX6_7 (hG.O_166) (by decide) rfl (hG.R_166_0) ?_
    refine x_iloadn hP 24 1 dX6_brought_23 rfl rfl mm1 ?_
    refine x_bipush hP 26 dX6_brought_24 rfl (by decide) ?_
    refine x_iadd hP 27 dX6_brought_26 rfl ?_
    refine x_iload hP 29 dX6_brought_27 rfl mm4 ?_
    refine x_iadd hP 30 dX6_brought_29 rfl ?_
    obtain ⟨hs, h⟩ := h
    refine x_iald hP 31 dX6_brought_30 rfl (hG.A_167) (by decide) hs ?_
    refine x_iloadn hP 32 2 dX6_brought_31 rfl rfl mm2 ?_
    obtain ⟨hs1, hs2, h⟩ := h
    refine x_icmp hP 35 50 (x2 < (σ 167 (Int.toNat ((x1 + 7) + x4)))) dX6_brought_32 rfl rfl hs1 hs2 rfl (fun hbr => ?_) (fun hbr => ?_)
    · replace h := h.1 hbr
      refine x_iconst hP 51 dX6_brought_50 rfl ?_
      refine x_iadd hP 52 dX6_brought_51 rfl ?_
      refine x_istoren hP 53 3 [(0, vR (some 166)), (1, vI x1), (2, vI x2), (3, vI (x3 + 0)), (4, vI x4)] dX6_brought_52 rfl rfl (by decide) rfl rfl ?_
      refine x_iinc hP 56 [(0, vR (some 166)), (1, vI x1), (2, vI x2), (3, vI (x3 + 0)), (4, vI (x4 + 1))] dX6_brought_53 rfl mm4 (by decide) rfl rfl ?_
      refine x_goto hP 5 dX6_brought_56 rfl ?_
      exact h
    · replace h := h.2 hbr
      refine x_aloadn hP 36 0 dX6_brought_35 rfl rfl mm0 ?_
      refine x_getr hP 39 167 dX6_brought_36 rfl fl_RX6_7 (hG.O_166) (by decide) rfl (hG.R_166_0) ?_
      refine x_iloadn hP 40 1 dX6_brought_39 rfl rfl mm1 ?_
      refine x_bipush hP 42 dX6_brought_40 rfl (by decide) ?_
      refine x_iadd hP 43 dX6_brought_42 rfl ?_
      refine x_iload hP 45 dX6_brought_43 rfl mm4 ?_
      refine x_iadd hP 46 dX6_brought_45 rfl ?_
      obtain ⟨hs, h⟩ := h
      refine x_iald hP 47 dX6_brought_46 rfl (hG.A_167) (by decide) hs ?_
      refine x_goto hP 51 dX6_brought_47 rfl ?_
      refine x_iadd hP 52 dX6_brought_51 rfl ?_
      refine x_istoren hP 53 3 [(0, vR (some 166)), (1, vI x1), (2, vI x2), (3, vI (x3 + (σ 167 (Int.toNat ((x1 + 16) + x4))))), (4, vI x4)] dX6_brought_52 rfl rfl (by decide) rfl rfl ?_
      refine x_iinc hP 56 [(0, vR (some 166)), (1, vI x1), (2, vI x2), (3, vI (x3 + (σ 167 (Int.toNat ((x1 + 16) + x4))))), (4, vI (x4 + 1))] dX6_brought_53 rfl mm4 (by decide) rfl rfl ?_
      refine x_goto hP 5 dX6_brought_56 rfl ?_
      exact h
theorem k_X6_beginOf_0 {d : Nat} {Q : pQ} {P : pP} {g : pG} {σ : pM} (hP : Clo (pCall d) yX6_beginOf cX6_beginOf (some .int) 8 0 0 Q P) (a : Int) (b : Int) (hG : gAll g) (h : ∃ (v1 : Int), Ca d yX6_isPoured [vR (some 166), vI a, vI b] g σ [vI v1] g σ ∧ iR v1 ∧ (¬ v1 = 0 → Q [vI ((-1))] g σ) ∧ (¬ (¬ v1 = 0) → (0 ≤ (a + 0) ∧ (a + 0) < 1300) ∧ iR b ∧ iR (σ 167 (Int.toNat (a + 0))) ∧ (b < (σ 167 (Int.toNat (a + 0))) → ∃ (v2 : Int), Ca d yX6_used [vR (some 166), vI a] g σ [vI v2] g σ ∧ (0 ≤ ((a + 25) + b) ∧ ((a + 25) + b) < 1300) ∧ (0 ≤ (a + 2) ∧ (a + 2) < 1300) ∧ ∃ (v3 : Int), Ca d yX6_brought [vR (some 166), vI a, vI (σ 167 (Int.toNat (a + 2)))] g σ [vI v3] g σ ∧ iR v3 ∧ iR (v2 + (σ 167 (Int.toNat ((a + 25) + b)))) ∧ (v3 < (v2 + (σ 167 (Int.toNat ((a + 25) + b)))) → P 106 [(0, vR (some 166)), (1, vI a), (4, vI (v2 + (σ 167 (Int.toNat ((a + 25) + b))))), (5, vI 99999), (6, vI 0)] [] g σ 0 0) ∧ (¬ (v3 < (v2 + (σ 167 (Int.toNat ((a + 25) + b))))) → (0 ≤ (a + 2) ∧ (a + 2) < 1300) ∧ P 106 [(0, vR (some 166)), (1, vI a), (4, vI (v2 + (σ 167 (Int.toNat ((a + 25) + b))))), (5, vI (σ 167 (Int.toNat (a + 2)))), (6, vI 0)] [] g σ 0 0)) ∧ (¬ (b < (σ 167 (Int.toNat (a + 0)))) → (0 ≤ (a + 0) ∧ (a + 0) < 1300) ∧ ∃ (v4 : Int), Ca d yX6_isPoured [vR (some 166), vI a, vI (b - (σ 167 (Int.toNat (a + 0))))] g σ [vI v4] g σ ∧ iR v4 ∧ (v4 = 0 → Q [vI ((-1))] g σ) ∧ (¬ (v4 = 0) → ∃ (v5 : Int), Ca d yX6_used [vR (some 166), vI a] g σ [vI v5] g σ ∧ (0 ≤ ((a + 25) + b) ∧ ((a + 25) + b) < 1300) ∧ (0 ≤ (a + 2) ∧ (a + 2) < 1300) ∧ ∃ (v6 : Int), Ca d yX6_brought [vR (some 166), vI a, vI (σ 167 (Int.toNat (a + 2)))] g σ [vI v6] g σ ∧ iR v6 ∧ iR (v5 + (σ 167 (Int.toNat ((a + 25) + b)))) ∧ (v6 < (v5 + (σ 167 (Int.toNat ((a + 25) + b)))) → P 106 [(0, vR (some 166)), (1, vI a), (4, vI (v5 + (σ 167 (Int.toNat ((a + 25) + b))))), (5, vI 99999), (6, vI 0)] [] g σ 0 0) ∧ (¬ (v6 < (v5 + (σ 167 (Int.toNat ((a + 25) + b))))) → (0 ≤ (a + 2) ∧ (a + 2) < 1300) ∧ P 106 [(0, vR (some 166)), (1, vI a), (4, vI (v5 + (σ 167 (Int.toNat ((a + 25) + b))))), (5, vI (σ 167 (Int.toNat (a + 2)))), (6, vI 0)] [] g σ 0 0))))) : P 0 [(0, vR (some 166)), (1, vI a), (2, vI b)] [] g σ 0 0 := by
  refine x_aloadn hP 1 0 dX6_beginOf_0 rfl rfl mm0 ?_
  refine x_iloadn hP 2 1 dX6_beginOf_1 rfl rfl mm1 ?_
  refine x_iloadn hP 3 2 dX6_beginOf_2 rfl rfl mm2 ?_
  obtain ⟨v1, hc, h⟩ := h
  refine x_cv hP 6 [vI a, vI b] [] dX6_beginOf_3 rfl (hG.O_166) (by decide) rfl ml_RX6_54 im_X6_isPoured se_X6_isPoured it_RX6 pp_X6_isPoured bd_X6_isPoured rfl rfl ⟨Nat.le_refl _, Nat.le_refl _⟩ (by simp [pC]) hc ?_
  obtain ⟨hs1, h⟩ := h
  refine x_ifc hP 9 43 (¬ v1 = 0) dX6_beginOf_6 rfl rfl hs1 rfl (fun hbr => ?_) (fun hbr => ?_)
  · replace h := h.1 hbr
    refine x_iconst hP 44 dX6_beginOf_43 rfl ?_
    refine x_istoren hP 45 3 [(0, vR (some 166)), (1, vI a), (2, vI b), (3, vI 0)] dX6_beginOf_44 rfl rfl (by decide) rfl rfl ?_
    refine x_iloadn hP 46 3 dX6_beginOf_45 rfl rfl mm3 ?_
    refine x_ifc hP 49 51 (¬ (0 : Int) = 0) dX6_beginOf_46 rfl rfl (by decide) rfl (fun hbr => absurd hbr (by decide)) (fun _ => ?_)
    refine x_iconst hP 50 dX6_beginOf_49 rfl ?_
    exact x_iret hP dX6_beginOf_50 ⟨Nat.le_refl _, Nat.le_refl _⟩ h
  · replace h := h.2 hbr
    refine x_iloadn hP 10 2 dX6_beginOf_9 rfl rfl mm2 ?_
    refine x_aloadn hP 11 0 dX6_beginOf_10 rfl rfl mm0 ?_
    refine x_getr hP 14 167 dX6_beginOf_11 rfl fl_RX6_7 (hG.O_166) (by decide) rfl (hG.R_166_0) ?_
    refine x_iloadn hP 15 1 dX6_beginOf_14 rfl rfl mm1 ?_
    refine x_iconst hP 16 dX6_beginOf_15 rfl ?_
    refine x_iadd hP 17 dX6_beginOf_16 rfl ?_
    obtain ⟨hs, h⟩ := h
    refine x_iald hP 18 dX6_beginOf_17 rfl (hG.A_167) (by decide) hs ?_
    obtain ⟨hs1, hs2, h⟩ := h
    refine x_icmp hP 21 39 (b < (σ 167 (Int.toNat (a + 0)))) dX6_beginOf_18 rfl rfl hs1 hs2 rfl (fun hbr => ?_) (fun hbr => ?_)
    · replace h := h.1 hbr
      refine x_iconst hP 40 dX6_beginOf_39 rfl ?_
      refine x_goto hP 44 dX6_beginOf_40 rfl ?_
      refine x_istoren hP 45 3 [(0, vR (some 166)), (1, vI a), (2, vI b), (3, vI 1)] dX6_beginOf_44 rfl rfl (by decide) rfl rfl ?_
      refine x_iloadn hP 46 3 dX6_beginOf_45 rfl rfl mm3 ?_
      refine x_ifc hP 49 51 (¬ (1 : Int) = 0) dX6_beginOf_46 rfl rfl (by decide) rfl (fun _ => ?_) (fun hbr => absurd hbr (by decide))
      refine x_aloadn hP 52 0 dX6_beginOf_51 rfl rfl mm0 ?_
      refine x_iloadn hP 53 1 dX6_beginOf_52 rfl rfl mm1 ?_
      obtain ⟨v2, hc, h⟩ := h
      refine x_cv hP 56 [vI a] [] dX6_beginOf_53 rfl (hG.O_166) (by decide) rfl ml_RX6_58 im_X6_used se_X6_used it_RX6 pp_X6_used bd_X6_used rfl rfl ⟨Nat.le_refl _, Nat.le_refl _⟩ (by simp [pC]) hc ?_
      refine x_aloadn hP 57 0 dX6_beginOf_56 rfl rfl mm0 ?_
      refine x_getr hP 60 167 dX6_beginOf_57 rfl fl_RX6_7 (hG.O_166) (by decide) rfl (hG.R_166_0) ?_
      refine x_iloadn hP 61 1 dX6_beginOf_60 rfl rfl mm1 ?_
      refine x_bipush hP 63 dX6_beginOf_61 rfl (by decide) ?_
      refine x_iadd hP 64 dX6_beginOf_63 rfl ?_
      refine x_iloadn hP 65 2 dX6_beginOf_64 rfl rfl mm2 ?_
      refine x_iadd hP 66 dX6_beginOf_65 rfl ?_
      obtain ⟨hs, h⟩ := h
      refine x_iald hP 67 dX6_beginOf_66 rfl (hG.A_167) (by decide) hs ?_
      refine x_iadd hP 68 dX6_beginOf_67 rfl ?_
      refine x_istore hP 70 [(0, vR (some 166)), (1, vI a), (2, vI b), (3, vI 1), (4, vI (v2 + (σ 167 (Int.toNat ((a + 25) + b)))))] dX6_beginOf_68 rfl (by decide) rfl rfl ?_
      refine x_aloadn hP 71 0 dX6_beginOf_70 rfl rfl mm0 ?_
      refine x_iloadn hP 72 1 dX6_beginOf_71 rfl rfl mm1 ?_
      refine x_aloadn hP 73 0 dX6_beginOf_72 rfl rfl mm0 ?_
      refine x_getr hP 76 167 dX6_beginOf_73 rfl fl_RX6_7 (hG.O_166) (by decide) rfl (hG.R_166_0) ?_
      refine x_iloadn hP 77 1 dX6_beginOf_76 rfl rfl mm1 ?_
      refine x_iconst hP 78 dX6_beginOf_77 rfl ?_
      refine x_iadd hP 79 dX6_beginOf_78 rfl ?_
      obtain ⟨hs, h⟩ := h
      refine x_iald hP 80 dX6_beginOf_79 rfl (hG.A_167) (by decide) hs ?_
      obtain ⟨v3, hc, h⟩ := h
      refine x_cv hP 83 [vI a, vI (σ 167 (Int.toNat (a + 2)))] [] dX6_beginOf_80 rfl (hG.O_166) (by decide) rfl ml_RX6_62 im_X6_brought se_X6_brought it_RX6 pp_X6_brought bd_X6_brought rfl rfl ⟨Nat.le_refl _, Nat.le_refl _⟩ (by simp [pC]) hc ?_
      refine x_iload hP 85 dX6_beginOf_83 rfl mm4 ?_
      obtain ⟨hs1, hs2, h⟩ := h
      refine x_icmp hP 88 99 (v3 < (v2 + (σ 167 (Int.toNat ((a + 25) + b))))) dX6_beginOf_85 rfl rfl hs1 hs2 rfl (fun hbr => ?_) (fun hbr => ?_)
      · replace h := h.1 hbr
        refine x_ldc hP 101 dX6_beginOf_99 rfl kc_RX6_66 ?_
        refine x_istore hP 103 [(0, vR (some 166)), (1, vI a), (2, vI b), (3, vI 1), (4, vI (v2 + (σ 167 (Int.toNat ((a + 25) + b))))), (5, vI 99999)] dX6_beginOf_101 rfl (by decide) rfl rfl ?_
        refine x_iconst hP 104 dX6_beginOf_103 rfl ?_
        refine x_istore hP 106 [(0, vR (some 166)), (1, vI a), (2, vI b), (3, vI 1), (4, vI (v2 + (σ 167 (Int.toNat ((a + 25) + b))))), (5, vI 99999), (6, vI 0)] dX6_beginOf_104 rfl (by decide) rfl rfl ?_
        exact x_sub hP [0, 1, 4, 5, 6] rfl h
      · replace h := h.2 hbr
        refine x_aloadn hP 89 0 dX6_beginOf_88 rfl rfl mm0 ?_
        refine x_getr hP 92 167 dX6_beginOf_89 rfl fl_RX6_7 (hG.O_166) (by decide) rfl (hG.R_166_0) ?_
        refine x_iloadn hP 93 1 dX6_beginOf_92 rfl rfl mm1 ?_
        refine x_iconst hP 94 dX6_beginOf_93 rfl ?_
        refine x_iadd hP 95 dX6_beginOf_94 rfl ?_
        obtain ⟨hs, h⟩ := h
        refine x_iald hP 96 dX6_beginOf_95 rfl (hG.A_167) (by decide) hs ?_
        refine x_goto hP 101 dX6_beginOf_96 rfl ?_
        refine x_istore hP 103 [(0, vR (some 166)), (1, vI a), (2, vI b), (3, vI 1), (4, vI (v2 + (σ 167 (Int.toNat ((a + 25) + b))))), (5, vI (σ 167 (Int.toNat (a + 2))))] dX6_beginOf_101 rfl (by decide) rfl rfl ?_
        refine x_iconst hP 104 dX6_beginOf_103 rfl ?_
        refine x_istore hP 106 [(0, vR (some 166)), (1, vI a), (2, vI b), (3, vI 1), (4, vI (v2 + (σ 167 (Int.toNat ((a + 25) + b))))), (5, vI (σ 167 (Int.toNat (a + 2)))), (6, vI 0)] dX6_beginOf_104 rfl (by decide) rfl rfl ?_
        exact x_sub hP [0, 1, 4, 5, 6] rfl h
    · replace h := h.2 hbr
      refine x_aloadn hP 22 0 dX6_beginOf_21 rfl rfl mm0 ?_
      refine x_iloadn hP 23 1 dX6_beginOf_22 rfl rfl mm1 ?_
      refine x_iloadn hP 24 2 dX6_beginOf_23 rfl rfl mm2 ?_
      refine x_aloadn hP 25 0 dX6_beginOf_24 rfl rfl mm0 ?_
      refine x_getr hP 28 167 dX6_beginOf_25 rfl fl_RX6_7 (hG.O_166) (by decide) rfl (hG.R_166_0) ?_
      refine x_iloadn hP 29 1 dX6_beginOf_28 rfl rfl mm1 ?_
      refine x_iconst hP 30 dX6_beginOf_29 rfl ?_
      refine x_iadd hP 31 dX6_beginOf_30 rfl ?_
      obtain ⟨hs, h⟩ := h
      refine x_iald hP 32 dX6_beginOf_31 rfl (hG.A_167) (by decide) hs ?_
      refine x_isub hP 33 dX6_beginOf_32 rfl ?_
      obtain ⟨v4, hc, h⟩ := h
      refine x_cv hP 36 [vI a, vI (b - (σ 167 (Int.toNat (a + 0))))] [] dX6_beginOf_33 rfl (hG.O_166) (by decide) rfl ml_RX6_54 im_X6_isPoured se_X6_isPoured it_RX6 pp_X6_isPoured bd_X6_isPoured rfl rfl ⟨Nat.le_refl _, Nat.le_refl _⟩ (by simp [pC]) hc ?_
      obtain ⟨hs1, h⟩ := h
      refine x_ifc hP 39 43 (v4 = 0) dX6_beginOf_36 rfl rfl hs1 rfl (fun hbr => ?_) (fun hbr => ?_)
      · replace h := h.1 hbr
        refine x_iconst hP 44 dX6_beginOf_43 rfl ?_
        refine x_istoren hP 45 3 [(0, vR (some 166)), (1, vI a), (2, vI b), (3, vI 0)] dX6_beginOf_44 rfl rfl (by decide) rfl rfl ?_
        refine x_iloadn hP 46 3 dX6_beginOf_45 rfl rfl mm3 ?_
        refine x_ifc hP 49 51 (¬ (0 : Int) = 0) dX6_beginOf_46 rfl rfl (by decide) rfl (fun hbr => absurd hbr (by decide)) (fun _ => ?_)
        refine x_iconst hP 50 dX6_beginOf_49 rfl ?_
        exact x_iret hP dX6_beginOf_50 ⟨Nat.le_refl _, Nat.le_refl _⟩ h
      · replace h := h.2 hbr
        refine x_iconst hP 40 dX6_beginOf_39 rfl ?_
        refine x_goto hP 44 dX6_beginOf_40 rfl ?_
        refine x_istoren hP 45 3 [(0, vR (some 166)), (1, vI a), (2, vI b), (3, vI 1)] dX6_beginOf_44 rfl rfl (by decide) rfl rfl ?_
        refine x_iloadn hP 46 3 dX6_beginOf_45 rfl rfl mm3 ?_
        refine x_ifc hP 49 51 (¬ (1 : Int) = 0) dX6_beginOf_46 rfl rfl (by decide) rfl (fun _ => ?_) (fun hbr => absurd hbr (by decide))
        refine x_aloadn hP 52 0 dX6_beginOf_51 rfl rfl mm0 ?_
        refine x_iloadn hP 53 1 dX6_beginOf_52 rfl rfl mm1 ?_
        obtain ⟨v5, hc, h⟩ := h
        refine x_cv hP 56 [vI a] [] dX6_beginOf_53 rfl (hG.O_166) (by decide) rfl ml_RX6_58 im_X6_used se_X6_used it_RX6 pp_X6_used bd_X6_used rfl rfl ⟨Nat.le_refl _, Nat.le_refl _⟩ (by simp [pC]) hc ?_
        refine x_aloadn hP 57 0 dX6_beginOf_56 rfl rfl mm0 ?_
        refine x_getr hP 60 167 dX6_beginOf_57 rfl fl_RX6_7 (hG.O_166) (by decide) rfl (hG.R_166_0) ?_
        refine x_iloadn hP 61 1 dX6_beginOf_60 rfl rfl mm1 ?_
        refine x_bipush hP 63 dX6_beginOf_61 rfl (by decide) ?_
        refine x_iadd hP 64 dX6_beginOf_63 rfl ?_
        refine x_iloadn hP 65 2 dX6_beginOf_64 rfl rfl mm2 ?_
        refine x_iadd hP 66 dX6_beginOf_65 rfl ?_
        obtain ⟨hs, h⟩ := h
        refine x_iald hP 67 dX6_beginOf_66 rfl (hG.A_167) (by decide) hs ?_
        refine x_iadd hP 68 dX6_beginOf_67 rfl ?_
        refine x_istore hP 70 [(0, vR (some 166)), (1, vI a), (2, vI b), (3, vI 1), (4, vI (v5 + (σ 167 (Int.toNat ((a + 25) + b)))))] dX6_beginOf_68 rfl (by decide) rfl rfl ?_
        refine x_aloadn hP 71 0 dX6_beginOf_70 rfl rfl mm0 ?_
        refine x_iloadn hP 72 1 dX6_beginOf_71 rfl rfl mm1 ?_
        refine x_aloadn hP 73 0 dX6_beginOf_72 rfl rfl mm0 ?_
        refine x_getr hP 76 167 dX6_beginOf_73 rfl fl_RX6_7 (hG.O_166) (by decide) rfl (hG.R_166_0) ?_
        refine x_iloadn hP 77 1 dX6_beginOf_76 rfl rfl mm1 ?_
        refine x_iconst hP 78 dX6_beginOf_77 rfl ?_
        refine x_iadd hP 79 dX6_beginOf_78 rfl ?_
        obtain ⟨hs, h⟩ := h
        refine x_iald hP 80 dX6_beginOf_79 rfl (hG.A_167) (by decide) hs ?_
        obtain ⟨v6, hc, h⟩ := h
        refine x_cv hP 83 [vI a, vI (σ 167 (Int.toNat (a + 2)))] [] dX6_beginOf_80 rfl (hG.O_166) (by decide) rfl ml_RX6_62 im_X6_brought se_X6_brought it_RX6 pp_X6_brought bd_X6_brought rfl rfl ⟨Nat.le_refl _, Nat.le_refl _⟩ (by simp [pC]) hc ?_
        refine x_iload hP 85 dX6_beginOf_83 rfl mm4 ?_
        obtain ⟨hs1, hs2, h⟩ := h
        refine x_icmp hP 88 99 (v6 < (v5 + (σ 167 (Int.toNat ((a + 25) + b))))) dX6_beginOf_85 rfl rfl hs1 hs2 rfl (fun hbr => ?_) (fun hbr => ?_)
        · replace h := h.1 hbr
          refine x_ldc hP 101 dX6_beginOf_99 rfl kc_RX6_66 ?_
          refine x_istore hP 103 [(0, vR (some 166)), (1, vI a), (2, vI b), (3, vI 1), (4, vI (v5 + (σ 167 (Int.toNat ((a + 25) + b))))), (5, vI 99999)] dX6_beginOf_101 rfl (by decide) rfl rfl ?_
          refine x_iconst hP 104 dX6_beginOf_103 rfl ?_
          refine x_istore hP 106 [(0, vR (some 166)), (1, vI a), (2, vI b), (3, vI 1), (4, vI (v5 + (σ 167 (Int.toNat ((a + 25) + b))))), (5, vI 99999), (6, vI 0)] dX6_beginOf_104 rfl (by decide) rfl rfl ?_
          exact x_sub hP [0, 1, 4, 5, 6] rfl h
        · replace h := h.2 hbr
          refine x_aloadn hP 89 0 dX6_beginOf_88 rfl rfl mm0 ?_
          refine x_getr hP 92 167 dX6_beginOf_89 rfl fl_RX6_7 (hG.O_166) (by decide) rfl (hG.R_166_0) ?_
          refine x_iloadn hP 93 1 dX6_beginOf_92 rfl rfl mm1 ?_
          refine x_iconst hP 94 dX6_beginOf_93 rfl ?_
          refine x_iadd hP 95 dX6_beginOf_94 rfl ?_
          obtain ⟨hs, h⟩ := h
          refine x_iald hP 96 dX6_beginOf_95 rfl (hG.A_167) (by decide) hs ?_
          refine x_goto hP 101 dX6_beginOf_96 rfl ?_
          refine x_istore hP 103 [(0, vR (some 166)), (1, vI a), (2, vI b), (3, vI 1), (4, vI (v5 + (σ 167 (Int.toNat ((a + 25) + b))))), (5, vI (σ 167 (Int.toNat (a + 2))))] dX6_beginOf_101 rfl (by decide) rfl rfl ?_
          refine x_iconst hP 104 dX6_beginOf_103 rfl ?_
          refine x_istore hP 106 [(0, vR (some 166)), (1, vI a), (2, vI b), (3, vI 1), (4, vI (v5 + (σ 167 (Int.toNat ((a + 25) + b))))), (5, vI (σ 167 (Int.toNat (a + 2)))), (6, vI 0)] dX6_beginOf_104 rfl (by decide) rfl rfl ?_
          exact x_sub hP [0, 1, 4, 5, 6] rfl h
theorem k_X6_beginOf_106 {d : Nat} {Q : pQ} {P : pP} {g : pG} {σ : pM} (hP : Clo (pCall d) yX6_beginOf cX6_beginOf (some .int) 8 0 0 Q P) (x1 : Int) (x4 : Int) (x5 : Int) (x6 : Int) (hG : gAll g) (h : (0 ≤ (x1 + 3) ∧ (x1 + 3) < 1300) ∧ iR x6 ∧ iR (σ 167 (Int.toNat (x1 + 3))) ∧ ((σ 167 (Int.toNat (x1 + 3))) ≤ x6 → iR x5 ∧ (¬ x5 = 99999 → Q [vI x5] g σ) ∧ (¬ (¬ x5 = 99999) → Q [vI ((-1))] g σ)) ∧ (¬ ((σ 167 (Int.toNat (x1 + 3))) ≤ x6) → (0 ≤ (x1 + 2) ∧ (x1 + 2) < 1300) ∧ iR x5 ∧ iR (σ 167 (Int.toNat (x1 + 2))) ∧ (x5 ≤ (σ 167 (Int.toNat (x1 + 2))) → iR x5 ∧ (¬ x5 = 99999 → Q [vI x5] g σ) ∧ (¬ (¬ x5 = 99999) → Q [vI ((-1))] g σ)) ∧ (¬ (x5 ≤ (σ 167 (Int.toNat (x1 + 2)))) → (0 ≤ ((x1 + 7) + x6) ∧ ((x1 + 7) + x6) < 1300) ∧ (0 ≤ (x1 + 2) ∧ (x1 + 2) < 1300) ∧ iR (σ 167 (Int.toNat ((x1 + 7) + x6))) ∧ iR (σ 167 (Int.toNat (x1 + 2))) ∧ ((σ 167 (Int.toNat ((x1 + 7) + x6))) ≤ (σ 167 (Int.toNat (x1 + 2))) → P 106 [(0, vR (some 166)), (1, vI x1), (4, vI x4), (5, vI x5), (6, vI (x6 + 1))] [] g σ 0 0) ∧ (¬ ((σ 167 (Int.toNat ((x1 + 7) + x6))) ≤ (σ 167 (Int.toNat (x1 + 2)))) → iR (σ 167 (Int.toNat ((x1 + 7) + x6))) ∧ iR x5 ∧ (x5 ≤ (σ 167 (Int.toNat ((x1 + 7) + x6))) → P 106 [(0, vR (some 166)), (1, vI x1), (4, vI x4), (5, vI x5), (6, vI (x6 + 1))] [] g σ 0 0) ∧ (¬ (x5 ≤ (σ 167 (Int.toNat ((x1 + 7) + x6)))) → ∃ (v1 : Int), Ca d yX6_brought [vR (some 166), vI x1, vI (σ 167 (Int.toNat ((x1 + 7) + x6)))] g σ [vI v1] g σ ∧ iR v1 ∧ iR x4 ∧ (v1 < x4 → P 106 [(0, vR (some 166)), (1, vI x1), (4, vI x4), (5, vI x5), (6, vI (x6 + 1))] [] g σ 0 0) ∧ (¬ (v1 < x4) → P 106 [(0, vR (some 166)), (1, vI x1), (4, vI x4), (5, vI (σ 167 (Int.toNat ((x1 + 7) + x6)))), (6, vI (x6 + 1))] [] g σ 0 0)))))) : P 106 [(0, vR (some 166)), (1, vI x1), (4, vI x4), (5, vI x5), (6, vI x6)] [] g σ 0 0 := by
  refine x_iload hP 108 dX6_beginOf_106 rfl mm4 ?_
  refine x_aloadn hP 109 0 dX6_beginOf_108 rfl rfl mm0 ?_
  refine x_getr hP 112 167 dX6_beginOf_109 rfl fl_RX6_7 (hG.O_166) (by decide) rfl (hG.R_166_0) ?_
  refine x_iloadn hP 113 1 dX6_beginOf_112 rfl rfl mm1 ?_
  refine x_iconst hP 114 dX6_beginOf_113 rfl ?_
  refine x_iadd hP 115 dX6_beginOf_114 rfl ?_
  obtain ⟨hs, h⟩ := h
  refine x_iald hP 116 dX6_beginOf_115 rfl (hG.A_167) (by decide) hs ?_
  obtain ⟨hs1, hs2, h⟩ := h
  refine x_icmp hP 119 193 ((σ 167 (Int.toNat (x1 + 3))) ≤ x6) dX6_beginOf_116 rfl rfl hs1 hs2 rfl (fun hbr => ?_) (fun hbr => ?_)
  · replace h := h.1 hbr
    refine x_iload hP 195 dX6_beginOf_193 rfl mm3 ?_
    refine x_ldc hP 197 dX6_beginOf_195 rfl kc_RX6_66 ?_
    obtain ⟨hs1, h⟩ := h
    refine x_icmp hP 200 204 (¬ x5 = 99999) dX6_beginOf_197 rfl rfl hs1 (by decide) rfl (fun hbr => ?_) (fun hbr => ?_)
    · replace h := h.1 hbr
      refine x_iload hP 206 dX6_beginOf_204 rfl mm3 ?_
      exact x_iret hP dX6_beginOf_206 ⟨Nat.le_refl _, Nat.le_refl _⟩ h
    · replace h := h.2 hbr
      refine x_iconst hP 201 dX6_beginOf_200 rfl ?_
      refine x_goto hP 206 dX6_beginOf_201 rfl ?_
      exact x_iret hP dX6_beginOf_206 ⟨Nat.le_refl _, Nat.le_refl _⟩ h
  · replace h := h.2 hbr
    refine x_iload hP 121 dX6_beginOf_119 rfl mm3 ?_
    refine x_aloadn hP 122 0 dX6_beginOf_121 rfl rfl mm0 ?_
    refine x_getr hP 125 167 dX6_beginOf_122 rfl fl_RX6_7 (hG.O_166) (by decide) rfl (hG.R_166_0) ?_
    refine x_iloadn hP 126 1 dX6_beginOf_125 rfl rfl mm1 ?_
    refine x_iconst hP 127 dX6_beginOf_126 rfl ?_
    refine x_iadd hP 128 dX6_beginOf_127 rfl ?_
    obtain ⟨hs, h⟩ := h
    refine x_iald hP 129 dX6_beginOf_128 rfl (hG.A_167) (by decide) hs ?_
    obtain ⟨hs1, hs2, h⟩ := h
    refine x_icmp hP 132 193 (x5 ≤ (σ 167 (Int.toNat (x1 + 2)))) dX6_beginOf_129 rfl rfl hs1 hs2 rfl (fun hbr => ?_) (fun hbr => ?_)
    · replace h := h.1 hbr
      refine x_iload hP 195 dX6_beginOf_193 rfl mm3 ?_
      refine x_ldc hP 197 dX6_beginOf_195 rfl kc_RX6_66 ?_
      obtain ⟨hs1, h⟩ := h
      refine x_icmp hP 200 204 (¬ x5 = 99999) dX6_beginOf_197 rfl rfl hs1 (by decide) rfl (fun hbr => ?_) (fun hbr => ?_)
      · replace h := h.1 hbr
        refine x_iload hP 206 dX6_beginOf_204 rfl mm3 ?_
        exact x_iret hP dX6_beginOf_206 ⟨Nat.le_refl _, Nat.le_refl _⟩ h
      · replace h := h.2 hbr
        refine x_iconst hP 201 dX6_beginOf_200 rfl ?_
        refine x_goto hP 206 dX6_beginOf_201 rfl ?_
        exact x_iret hP dX6_beginOf_206 ⟨Nat.le_refl _, Nat.le_refl _⟩ h
    · replace h := h.2 hbr
      refine x_aloadn hP 133 0 dX6_beginOf_132 rfl rfl mm0 ?_
      refine x_getr hP 136 167 dX6_beginOf_133 rfl fl_RX6_7 (hG.O_166) (by decide) rfl (hG.R_166_0) ?_
      refine x_iloadn hP 137 1 dX6_beginOf_136 rfl rfl mm1 ?_
      refine x_bipush hP 139 dX6_beginOf_137 rfl (by decide) ?_
      refine x_iadd hP 140 dX6_beginOf_139 rfl ?_
      refine x_iload hP 142 dX6_beginOf_140 rfl mm4 ?_
      refine x_iadd hP 143 dX6_beginOf_142 rfl ?_
      obtain ⟨hs, h⟩ := h
      refine x_iald hP 144 dX6_beginOf_143 rfl (hG.A_167) (by decide) hs ?_
      refine x_istore hP 146 [(0, vR (some 166)), (1, vI x1), (4, vI x4), (5, vI x5), (6, vI x6), (7, vI (σ 167 (Int.toNat ((x1 + 7) + x6))))] dX6_beginOf_144 rfl (by decide) rfl rfl ?_
      refine x_iload hP 148 dX6_beginOf_146 rfl mm5 ?_
      refine x_aloadn hP 149 0 dX6_beginOf_148 rfl rfl mm0 ?_
      refine x_getr hP 152 167 dX6_beginOf_149 rfl fl_RX6_7 (hG.O_166) (by decide) rfl (hG.R_166_0) ?_
      refine x_iloadn hP 153 1 dX6_beginOf_152 rfl rfl mm1 ?_
      refine x_iconst hP 154 dX6_beginOf_153 rfl ?_
      refine x_iadd hP 155 dX6_beginOf_154 rfl ?_
      obtain ⟨hs, h⟩ := h
      refine x_iald hP 156 dX6_beginOf_155 rfl (hG.A_167) (by decide) hs ?_
      obtain ⟨hs1, hs2, h⟩ := h
      refine x_icmp hP 159 183 ((σ 167 (Int.toNat ((x1 + 7) + x6))) ≤ (σ 167 (Int.toNat (x1 + 2)))) dX6_beginOf_156 rfl rfl hs1 hs2 rfl (fun hbr => ?_) (fun hbr => ?_)
      · replace h := h.1 hbr
        refine x_iload hP 185 dX6_beginOf_183 rfl mm3 ?_
        refine x_istore hP 187 [(0, vR (some 166)), (1, vI x1), (4, vI x4), (5, vI x5), (6, vI x6), (7, vI (σ 167 (Int.toNat ((x1 + 7) + x6))))] dX6_beginOf_185 rfl (by decide) rfl rfl ?_
        refine x_iinc hP 190 [(0, vR (some 166)), (1, vI x1), (4, vI x4), (5, vI x5), (6, vI (x6 + 1)), (7, vI (σ 167 (Int.toNat ((x1 + 7) + x6))))] dX6_beginOf_187 rfl mm4 (by decide) rfl rfl ?_
        refine x_goto hP 106 dX6_beginOf_190 rfl ?_
        exact x_sub hP [0, 1, 2, 3, 4] rfl h
      · replace h := h.2 hbr
        refine x_iload hP 161 dX6_beginOf_159 rfl mm5 ?_
        refine x_iload hP 163 dX6_beginOf_161 rfl mm3 ?_
        obtain ⟨hs1, hs2, h⟩ := h
        refine x_icmp hP 166 183 (x5 ≤ (σ 167 (Int.toNat ((x1 + 7) + x6)))) dX6_beginOf_163 rfl rfl hs1 hs2 rfl (fun hbr => ?_) (fun hbr => ?_)
        · replace h := h.1 hbr
          refine x_iload hP 185 dX6_beginOf_183 rfl mm3 ?_
          refine x_istore hP 187 [(0, vR (some 166)), (1, vI x1), (4, vI x4), (5, vI x5), (6, vI x6), (7, vI (σ 167 (Int.toNat ((x1 + 7) + x6))))] dX6_beginOf_185 rfl (by decide) rfl rfl ?_
          refine x_iinc hP 190 [(0, vR (some 166)), (1, vI x1), (4, vI x4), (5, vI x5), (6, vI (x6 + 1)), (7, vI (σ 167 (Int.toNat ((x1 + 7) + x6))))] dX6_beginOf_187 rfl mm4 (by decide) rfl rfl ?_
          refine x_goto hP 106 dX6_beginOf_190 rfl ?_
          exact x_sub hP [0, 1, 2, 3, 4] rfl h
        · replace h := h.2 hbr
          refine x_aloadn hP 167 0 dX6_beginOf_166 rfl rfl mm0 ?_
          refine x_iloadn hP 168 1 dX6_beginOf_167 rfl rfl mm1 ?_
          refine x_iload hP 170 dX6_beginOf_168 rfl mm5 ?_
          obtain ⟨v1, hc, h⟩ := h
          refine x_cv hP 173 [vI x1, vI (σ 167 (Int.toNat ((x1 + 7) + x6)))] [] dX6_beginOf_170 rfl (hG.O_166) (by decide) rfl ml_RX6_62 im_X6_brought se_X6_brought it_RX6 pp_X6_brought bd_X6_brought rfl rfl ⟨Nat.le_refl _, Nat.le_refl _⟩ (by simp [pC]) hc ?_
          refine x_iload hP 175 dX6_beginOf_173 rfl mm2 ?_
          obtain ⟨hs1, hs2, h⟩ := h
          refine x_icmp hP 178 183 (v1 < x4) dX6_beginOf_175 rfl rfl hs1 hs2 rfl (fun hbr => ?_) (fun hbr => ?_)
          · replace h := h.1 hbr
            refine x_iload hP 185 dX6_beginOf_183 rfl mm3 ?_
            refine x_istore hP 187 [(0, vR (some 166)), (1, vI x1), (4, vI x4), (5, vI x5), (6, vI x6), (7, vI (σ 167 (Int.toNat ((x1 + 7) + x6))))] dX6_beginOf_185 rfl (by decide) rfl rfl ?_
            refine x_iinc hP 190 [(0, vR (some 166)), (1, vI x1), (4, vI x4), (5, vI x5), (6, vI (x6 + 1)), (7, vI (σ 167 (Int.toNat ((x1 + 7) + x6))))] dX6_beginOf_187 rfl mm4 (by decide) rfl rfl ?_
            refine x_goto hP 106 dX6_beginOf_190 rfl ?_
            exact x_sub hP [0, 1, 2, 3, 4] rfl h
          · replace h := h.2 hbr
            refine x_iload hP 180 dX6_beginOf_178 rfl mm5 ?_
            refine x_goto hP 185 dX6_beginOf_180 rfl ?_
            refine x_istore hP 187 [(0, vR (some 166)), (1, vI x1), (4, vI x4), (5, vI (σ 167 (Int.toNat ((x1 + 7) + x6)))), (6, vI x6), (7, vI (σ 167 (Int.toNat ((x1 + 7) + x6))))] dX6_beginOf_185 rfl (by decide) rfl rfl ?_
            refine x_iinc hP 190 [(0, vR (some 166)), (1, vI x1), (4, vI x4), (5, vI (σ 167 (Int.toNat ((x1 + 7) + x6)))), (6, vI (x6 + 1)), (7, vI (σ 167 (Int.toNat ((x1 + 7) + x6))))] dX6_beginOf_187 rfl mm4 (by decide) rfl rfl ?_
            refine x_goto hP 106 dX6_beginOf_190 rfl ?_
            exact x_sub hP [0, 1, 2, 3, 4] rfl h
theorem k_X6_pours_0 {d : Nat} {Q : pQ} {P : pP} {g : pG} {σ : pM} (hP : Clo (pCall d) yX6_pours cX6_pours (some .boolean) 4 0 0 Q P) (a : Int) (b : Int) (hG : gAll g) (h : ∃ (v1 : Int), Ca d yX6_beginOf [vR (some 166), vI a, vI b] g σ [vI v1] g σ ∧ iR v1 ∧ (¬ v1 = ((-1)) → (0 ≤ ((a + 34) + b) ∧ ((a + 34) + b) < 1300) ∧ (0 ≤ ((a + 25) + b) ∧ ((a + 25) + b) < 1300) ∧ (0 ≤ ((a + 43) + b) ∧ ((a + 43) + b) < 1300) ∧ (0 ≤ ((a + 43) + b) ∧ ((a + 43) + b) < 1300) ∧ (0 ≤ (a + 2) ∧ (a + 2) < 1300) ∧ Q [vI 1] g (up2 (up2 (up2 σ 167 (Int.toNat ((a + 34) + b)) v1) 167 (Int.toNat ((a + 43) + b)) (v1 + ((up2 σ 167 (Int.toNat ((a + 34) + b)) v1) 167 (Int.toNat ((a + 25) + b))))) 167 (Int.toNat (a + 2)) ((up2 (up2 σ 167 (Int.toNat ((a + 34) + b)) v1) 167 (Int.toNat ((a + 43) + b)) (v1 + ((up2 σ 167 (Int.toNat ((a + 34) + b)) v1) 167 (Int.toNat ((a + 25) + b))))) 167 (Int.toNat ((a + 43) + b))))) ∧ (¬ (¬ v1 = ((-1))) → Q [vI 0] g σ)) : P 0 [(0, vR (some 166)), (1, vI a), (2, vI b)] [] g σ 0 0 := by
  refine x_aloadn hP 1 0 dX6_pours_0 rfl rfl mm0 ?_
  refine x_iloadn hP 2 1 dX6_pours_1 rfl rfl mm1 ?_
  refine x_iloadn hP 3 2 dX6_pours_2 rfl rfl mm2 ?_
  obtain ⟨v1, hc, h⟩ := h
  refine x_cv hP 6 [vI a, vI b] [] dX6_pours_3 rfl (hG.O_166) (by decide) rfl ml_RX6_67 im_X6_beginOf se_X6_beginOf it_RX6 pp_X6_beginOf bd_X6_beginOf rfl rfl ⟨Nat.le_refl _, Nat.le_refl _⟩ (by simp [pC]) hc ?_
  refine x_istoren hP 7 3 [(0, vR (some 166)), (1, vI a), (2, vI b), (3, vI v1)] dX6_pours_6 rfl rfl (by decide) rfl rfl ?_
  refine x_iloadn hP 8 3 dX6_pours_7 rfl rfl mm3 ?_
  refine x_iconst hP 9 dX6_pours_8 rfl ?_
  obtain ⟨hs1, h⟩ := h
  refine x_icmp hP 12 14 (¬ v1 = ((-1))) dX6_pours_9 rfl rfl hs1 (by decide) rfl (fun hbr => ?_) (fun hbr => ?_)
  · replace h := h.1 hbr
    refine x_aloadn hP 15 0 dX6_pours_14 rfl rfl mm0 ?_
    refine x_getr hP 18 167 dX6_pours_15 rfl fl_RX6_7 (hG.O_166) (by decide) rfl (hG.R_166_0) ?_
    refine x_iloadn hP 19 1 dX6_pours_18 rfl rfl mm1 ?_
    refine x_bipush hP 21 dX6_pours_19 rfl (by decide) ?_
    refine x_iadd hP 22 dX6_pours_21 rfl ?_
    refine x_iloadn hP 23 2 dX6_pours_22 rfl rfl mm2 ?_
    refine x_iadd hP 24 dX6_pours_23 rfl ?_
    refine x_iloadn hP 25 3 dX6_pours_24 rfl rfl mm3 ?_
    obtain ⟨hs1, h⟩ := h
    refine x_iast hP 26 dX6_pours_25 rfl (hG.A_167) (by decide) hs1 ?_
    refine x_aloadn hP 27 0 dX6_pours_26 rfl rfl mm0 ?_
    refine x_getr hP 30 167 dX6_pours_27 rfl fl_RX6_7 (hG.O_166) (by decide) rfl (hG.R_166_0) ?_
    refine x_iloadn hP 31 1 dX6_pours_30 rfl rfl mm1 ?_
    refine x_bipush hP 33 dX6_pours_31 rfl (by decide) ?_
    refine x_iadd hP 34 dX6_pours_33 rfl ?_
    refine x_iloadn hP 35 2 dX6_pours_34 rfl rfl mm2 ?_
    refine x_iadd hP 36 dX6_pours_35 rfl ?_
    refine x_iloadn hP 37 3 dX6_pours_36 rfl rfl mm3 ?_
    refine x_aloadn hP 38 0 dX6_pours_37 rfl rfl mm0 ?_
    refine x_getr hP 41 167 dX6_pours_38 rfl fl_RX6_7 (hG.O_166) (by decide) rfl (hG.R_166_0) ?_
    refine x_iloadn hP 42 1 dX6_pours_41 rfl rfl mm1 ?_
    refine x_bipush hP 44 dX6_pours_42 rfl (by decide) ?_
    refine x_iadd hP 45 dX6_pours_44 rfl ?_
    refine x_iloadn hP 46 2 dX6_pours_45 rfl rfl mm2 ?_
    refine x_iadd hP 47 dX6_pours_46 rfl ?_
    obtain ⟨hs, h⟩ := h
    refine x_iald hP 48 dX6_pours_47 rfl (hG.A_167) (by decide) hs ?_
    refine x_iadd hP 49 dX6_pours_48 rfl ?_
    obtain ⟨hs1, h⟩ := h
    refine x_iast hP 50 dX6_pours_49 rfl (hG.A_167) (by decide) hs1 ?_
    refine x_aloadn hP 51 0 dX6_pours_50 rfl rfl mm0 ?_
    refine x_getr hP 54 167 dX6_pours_51 rfl fl_RX6_7 (hG.O_166) (by decide) rfl (hG.R_166_0) ?_
    refine x_iloadn hP 55 1 dX6_pours_54 rfl rfl mm1 ?_
    refine x_iconst hP 56 dX6_pours_55 rfl ?_
    refine x_iadd hP 57 dX6_pours_56 rfl ?_
    refine x_aloadn hP 58 0 dX6_pours_57 rfl rfl mm0 ?_
    refine x_getr hP 61 167 dX6_pours_58 rfl fl_RX6_7 (hG.O_166) (by decide) rfl (hG.R_166_0) ?_
    refine x_iloadn hP 62 1 dX6_pours_61 rfl rfl mm1 ?_
    refine x_bipush hP 64 dX6_pours_62 rfl (by decide) ?_
    refine x_iadd hP 65 dX6_pours_64 rfl ?_
    refine x_iloadn hP 66 2 dX6_pours_65 rfl rfl mm2 ?_
    refine x_iadd hP 67 dX6_pours_66 rfl ?_
    obtain ⟨hs, h⟩ := h
    refine x_iald hP 68 dX6_pours_67 rfl (hG.A_167) (by decide) hs ?_
    obtain ⟨hs1, h⟩ := h
    refine x_iast hP 69 dX6_pours_68 rfl (hG.A_167) (by decide) hs1 ?_
    refine x_iconst hP 70 dX6_pours_69 rfl ?_
    exact x_zret hP dX6_pours_70 ⟨Nat.le_refl _, Nat.le_refl _⟩ (by decide) h
  · replace h := h.2 hbr
    refine x_iconst hP 13 dX6_pours_12 rfl ?_
    exact x_zret hP dX6_pours_13 ⟨Nat.le_refl _, Nat.le_refl _⟩ (by decide) h
theorem k_X6_poured_0 {d : Nat} {Q : pQ} {P : pP} {g : pG} {σ : pM} (hP : Clo (pCall d) yX6_poured cX6_poured (some .int) 3 0 0 Q P) (hG : gAll g) (h : P 4 [(0, vR (some 166)), (1, vI 0), (2, vI 0)] [] g σ 0 0) : P 0 [(0, vR (some 166))] [] g σ 0 0 := by
  refine x_iconst hP 1 dX6_poured_0 rfl ?_
  refine x_istoren hP 2 1 [(0, vR (some 166)), (1, vI 0)] dX6_poured_1 rfl rfl (by decide) rfl rfl ?_
  refine x_iconst hP 3 dX6_poured_2 rfl ?_
  refine x_istoren hP 4 2 [(0, vR (some 166)), (1, vI 0), (2, vI 0)] dX6_poured_3 rfl rfl (by decide) rfl rfl ?_
  exact h
theorem k_X6_poured_4 {d : Nat} {Q : pQ} {P : pP} {g : pG} {σ : pM} (hP : Clo (pCall d) yX6_poured cX6_poured (some .int) 3 0 0 Q P) (x1 : Int) (x2 : Int) (hG : gAll g) (h : ∃ (v1 : Int), Ca d yX6_cells [vR (some 166)] g σ [vI v1] g σ ∧ iR x2 ∧ iR v1 ∧ (v1 ≤ x2 → Q [vI x1] g σ) ∧ (¬ (v1 ≤ x2) → ∃ (v2 : Int), Ca d yX6_isPoured [vR (some 166), vI 0, vI x2] g σ [vI v2] g σ ∧ iR v2 ∧ (v2 = 0 → (0 ≤ x1 ∧ 0 ≤ (0 : Int)) ∧ P 4 [(0, vR (some 166)), (1, vI (((Int.toNat x1 ||| Int.toNat 0 : Nat) : Int))), (2, vI (x2 + 1))] [] g σ 0 0) ∧ (¬ (v2 = 0) → ((0 : Int) ≤ 1 ∧ 0 ≤ x2 ∧ x2 < 32 ∧ (1 : Int) * 2 ^ (x2 : Int).toNat < 4294967296) ∧ (0 ≤ x1 ∧ 0 ≤ ((1 : Int) * 2 ^ (x2 : Int).toNat : Int)) ∧ P 4 [(0, vR (some 166)), (1, vI (((Int.toNat x1 ||| Int.toNat ((1 : Int) * 2 ^ (x2 : Int).toNat) : Nat) : Int))), (2, vI (x2 + 1))] [] g σ 0 0))) : P 4 [(0, vR (some 166)), (1, vI x1), (2, vI x2)] [] g σ 0 0 := by
  refine x_iloadn hP 5 2 dX6_poured_4 rfl rfl mm2 ?_
  refine x_aloadn hP 6 0 dX6_poured_5 rfl rfl mm0 ?_
  obtain ⟨v1, hc, h⟩ := h
  refine x_cv hP 9 [] [vI x2] dX6_poured_6 rfl (hG.O_166) (by decide) rfl ml_RX6_46 im_X6_cells se_X6_cells it_RX6 pp_X6_cells bd_X6_cells rfl rfl ⟨Nat.le_refl _, Nat.le_refl _⟩ (by simp [pC]) hc ?_
  obtain ⟨hs1, hs2, h⟩ := h
  refine x_icmp hP 12 37 (v1 ≤ x2) dX6_poured_9 rfl rfl hs1 hs2 rfl (fun hbr => ?_) (fun hbr => ?_)
  · replace h := h.1 hbr
    refine x_iloadn hP 38 1 dX6_poured_37 rfl rfl mm1 ?_
    exact x_iret hP dX6_poured_38 ⟨Nat.le_refl _, Nat.le_refl _⟩ h
  · replace h := h.2 hbr
    refine x_iloadn hP 13 1 dX6_poured_12 rfl rfl mm1 ?_
    refine x_aloadn hP 14 0 dX6_poured_13 rfl rfl mm0 ?_
    refine x_iconst hP 15 dX6_poured_14 rfl ?_
    refine x_iloadn hP 16 2 dX6_poured_15 rfl rfl mm2 ?_
    obtain ⟨v2, hc, h⟩ := h
    refine x_cv hP 19 [vI 0, vI x2] [vI x1] dX6_poured_16 rfl (hG.O_166) (by decide) rfl ml_RX6_54 im_X6_isPoured se_X6_isPoured it_RX6 pp_X6_isPoured bd_X6_isPoured rfl rfl ⟨Nat.le_refl _, Nat.le_refl _⟩ (by simp [pC]) hc ?_
    obtain ⟨hs1, h⟩ := h
    refine x_ifc hP 22 28 (v2 = 0) dX6_poured_19 rfl rfl hs1 rfl (fun hbr => ?_) (fun hbr => ?_)
    · replace h := h.1 hbr
      refine x_iconst hP 29 dX6_poured_28 rfl ?_
      obtain ⟨hs, h⟩ := h
      refine x_ior hP 30 dX6_poured_29 rfl hs ?_
      refine x_istoren hP 31 1 [(0, vR (some 166)), (1, vI (((Int.toNat x1 ||| Int.toNat 0 : Nat) : Int))), (2, vI x2)] dX6_poured_30 rfl rfl (by decide) rfl rfl ?_
      refine x_iinc hP 34 [(0, vR (some 166)), (1, vI (((Int.toNat x1 ||| Int.toNat 0 : Nat) : Int))), (2, vI (x2 + 1))] dX6_poured_31 rfl mm2 (by decide) rfl rfl ?_
      refine x_goto hP 4 dX6_poured_34 rfl ?_
      exact h
    · replace h := h.2 hbr
      refine x_iconst hP 23 dX6_poured_22 rfl ?_
      refine x_iloadn hP 24 2 dX6_poured_23 rfl rfl mm2 ?_
      obtain ⟨hs, h⟩ := h
      refine x_ishl hP 25 dX6_poured_24 rfl hs ?_
      refine x_goto hP 29 dX6_poured_25 rfl ?_
      obtain ⟨hs, h⟩ := h
      refine x_ior hP 30 dX6_poured_29 rfl hs ?_
      refine x_istoren hP 31 1 [(0, vR (some 166)), (1, vI (((Int.toNat x1 ||| Int.toNat ((1 : Int) * 2 ^ (x2 : Int).toNat) : Nat) : Int))), (2, vI x2)] dX6_poured_30 rfl rfl (by decide) rfl rfl ?_
      refine x_iinc hP 34 [(0, vR (some 166)), (1, vI (((Int.toNat x1 ||| Int.toNat ((1 : Int) * 2 ^ (x2 : Int).toNat) : Nat) : Int))), (2, vI (x2 + 1))] dX6_poured_31 rfl mm2 (by decide) rfl rfl ?_
      refine x_goto hP 4 dX6_poured_34 rfl ?_
      exact h
theorem k_X6_ones_0 {d : Nat} {Q : pQ} {P : pP} {g : pG} {σ : pM} (hP : Clo (pCall d) yX6_ones cX6_ones (some .int) 3 0 0 Q P) (a : Int) (h : P 4 [(0, vI a), (1, vI 0), (2, vI 0)] [] g σ 0 0) : P 0 [(0, vI a)] [] g σ 0 0 := by
  refine x_iconst hP 1 dX6_ones_0 rfl ?_
  refine x_istoren hP 2 1 [(0, vI a), (1, vI 0)] dX6_ones_1 rfl rfl (by decide) rfl rfl ?_
  refine x_iconst hP 3 dX6_ones_2 rfl ?_
  refine x_istoren hP 4 2 [(0, vI a), (1, vI 0), (2, vI 0)] dX6_ones_3 rfl rfl (by decide) rfl rfl ?_
  exact h
theorem k_X6_ones_4 {d : Nat} {Q : pQ} {P : pP} {g : pG} {σ : pM} (hP : Clo (pCall d) yX6_ones cX6_ones (some .int) 3 0 0 Q P) (x0 : Int) (x1 : Int) (x2 : Int) (h : iR x2 ∧ (9 ≤ x2 → Q [vI x1] g σ) ∧ (¬ (9 ≤ x2) → ((0 : Int) ≤ x0 ∧ x0 < 2147483648 ∧ (0 : Int) ≤ x2 ∧ x2 < 32) ∧ (0 ≤ (x0 / 2 ^ (x2 : Int).toNat) ∧ 0 ≤ (1 : Int)) ∧ P 4 [(0, vI x0), (1, vI (x1 + (((Int.toNat (x0 / 2 ^ (x2 : Int).toNat) &&& Int.toNat 1 : Nat) : Int)))), (2, vI (x2 + 1))] [] g σ 0 0)) : P 4 [(0, vI x0), (1, vI x1), (2, vI x2)] [] g σ 0 0 := by
  refine x_iloadn hP 5 2 dX6_ones_4 rfl rfl mm2 ?_
  refine x_bipush hP 7 dX6_ones_5 rfl (by decide) ?_
  obtain ⟨hs1, h⟩ := h
  refine x_icmp hP 10 24 (9 ≤ x2) dX6_ones_7 rfl rfl hs1 (by decide) rfl (fun hbr => ?_) (fun hbr => ?_)
  · replace h := h.1 hbr
    refine x_iloadn hP 25 1 dX6_ones_24 rfl rfl mm1 ?_
    exact x_iret hP dX6_ones_25 ⟨Nat.le_refl _, Nat.le_refl _⟩ h
  · replace h := h.2 hbr
    refine x_iloadn hP 11 1 dX6_ones_10 rfl rfl mm1 ?_
    refine x_iloadn hP 12 0 dX6_ones_11 rfl rfl mm0 ?_
    refine x_iloadn hP 13 2 dX6_ones_12 rfl rfl mm2 ?_
    obtain ⟨hs, h⟩ := h
    refine x_ishr hP 14 dX6_ones_13 rfl hs ?_
    refine x_iconst hP 15 dX6_ones_14 rfl ?_
    obtain ⟨hs, h⟩ := h
    refine x_iand hP 16 dX6_ones_15 rfl hs ?_
    refine x_iadd hP 17 dX6_ones_16 rfl ?_
    refine x_istoren hP 18 1 [(0, vI x0), (1, vI (x1 + (((Int.toNat (x0 / 2 ^ (x2 : Int).toNat) &&& Int.toNat 1 : Nat) : Int)))), (2, vI x2)] dX6_ones_17 rfl rfl (by decide) rfl rfl ?_
    refine x_iinc hP 21 [(0, vI x0), (1, vI (x1 + (((Int.toNat (x0 / 2 ^ (x2 : Int).toNat) &&& Int.toNat 1 : Nat) : Int)))), (2, vI (x2 + 1))] dX6_ones_18 rfl mm2 (by decide) rfl rfl ?_
    refine x_goto hP 4 dX6_ones_21 rfl ?_
    exact h
theorem k_X6_beyond_0 {d : Nat} {Q : pQ} {P : pP} {g : pG} {σ : pM} (hP : Clo (pCall d) yX6_beyond cX6_beyond (some .int) 5 0 0 Q P) (a : Int) (b : Int) (hG : gAll g) (h : (0 ≤ (a + 0) ∧ (a + 0) < 1300) ∧ iR b ∧ (0 ≤ (a + 1) ∧ (a + 1) < 1300) ∧ iR (((3 * (σ 167 (Int.toNat (a + 0)))) * (σ 167 (Int.toNat (a + 1)))) - 1) ∧ ∃ (v1 : Int), Ca d yX6_in [vJ b, vJ 0, vJ (((3 * (σ 167 (Int.toNat (a + 0)))) * (σ 167 (Int.toNat (a + 1)))) - 1)] g σ [vI v1] g σ ∧ iR v1 ∧ (¬ v1 = 0 → iR b ∧ iR b ∧ iR (Int.tmod b 3) ∧ (¬ (Int.tmod b 3) = 0 → iR b ∧ iR (Int.tmod b 3) ∧ (¬ (Int.tmod b 3) = 1 → (iR (Int.tdiv b 3) ∧ iR (σ 167 (Int.toNat (a + 0))) ∧ (σ 167 (Int.toNat (a + 0))) ≠ 0) ∧ iR (Int.tmod (Int.tdiv b 3) (σ 167 (Int.toNat (a + 0)))) ∧ ((Int.tmod (Int.tdiv b 3) (σ 167 (Int.toNat (a + 0)))) ≤ 0 → Q [vI ((-1))] g σ) ∧ (¬ ((Int.tmod (Int.tdiv b 3) (σ 167 (Int.toNat (a + 0)))) ≤ 0) → Q [vI ((Int.tdiv b 3) - 1)] g σ)) ∧ (¬ (¬ (Int.tmod b 3) = 1) → (iR (Int.tdiv b 3) ∧ iR (σ 167 (Int.toNat (a + 0))) ∧ (σ 167 (Int.toNat (a + 0))) ≠ 0) ∧ iR ((Int.tmod (Int.tdiv b 3) (σ 167 (Int.toNat (a + 0)))) + 1) ∧ iR (σ 167 (Int.toNat (a + 0))) ∧ ((σ 167 (Int.toNat (a + 0))) ≤ ((Int.tmod (Int.tdiv b 3) (σ 167 (Int.toNat (a + 0)))) + 1) → Q [vI ((-1))] g σ) ∧ (¬ ((σ 167 (Int.toNat (a + 0))) ≤ ((Int.tmod (Int.tdiv b 3) (σ 167 (Int.toNat (a + 0)))) + 1)) → Q [vI ((Int.tdiv b 3) + 1)] g σ))) ∧ (¬ (¬ (Int.tmod b 3) = 0) → (0 ≤ (a + 1) ∧ (a + 1) < 1300) ∧ iR ((Int.tdiv b 3) + (σ 167 (Int.toNat (a + 0)))) ∧ iR ((σ 167 (Int.toNat (a + 0))) * (σ 167 (Int.toNat (a + 1)))) ∧ (((σ 167 (Int.toNat (a + 0))) * (σ 167 (Int.toNat (a + 1)))) ≤ ((Int.tdiv b 3) + (σ 167 (Int.toNat (a + 0)))) → Q [vI ((-1))] g σ) ∧ (¬ (((σ 167 (Int.toNat (a + 0))) * (σ 167 (Int.toNat (a + 1)))) ≤ ((Int.tdiv b 3) + (σ 167 (Int.toNat (a + 0))))) → Q [vI ((Int.tdiv b 3) + (σ 167 (Int.toNat (a + 0))))] g σ))) ∧ (¬ (¬ v1 = 0) → Q [vI ((-1))] g σ)) : P 0 [(0, vR (some 166)), (1, vI a), (2, vI b)] [] g σ 0 0 := by
  refine x_aloadn hP 1 0 dX6_beyond_0 rfl rfl mm0 ?_
  refine x_getr hP 4 167 dX6_beyond_1 rfl fl_RX6_7 (hG.O_166) (by decide) rfl (hG.R_166_0) ?_
  refine x_iloadn hP 5 1 dX6_beyond_4 rfl rfl mm1 ?_
  refine x_iconst hP 6 dX6_beyond_5 rfl ?_
  refine x_iadd hP 7 dX6_beyond_6 rfl ?_
  obtain ⟨hs, h⟩ := h
  refine x_iald hP 8 dX6_beyond_7 rfl (hG.A_167) (by decide) hs ?_
  refine x_istoren hP 9 3 [(0, vR (some 166)), (1, vI a), (2, vI b), (3, vI (σ 167 (Int.toNat (a + 0))))] dX6_beyond_8 rfl rfl (by decide) rfl rfl ?_
  refine x_iloadn hP 10 2 dX6_beyond_9 rfl rfl mm2 ?_
  obtain ⟨hs, h⟩ := h
  refine x_i2l hP 11 dX6_beyond_10 rfl hs ?_
  refine x_lconst hP 12 dX6_beyond_11 rfl ?_
  refine x_iconst hP 13 dX6_beyond_12 rfl ?_
  refine x_iloadn hP 14 3 dX6_beyond_13 rfl rfl mm3 ?_
  refine x_imul hP 15 dX6_beyond_14 rfl ?_
  refine x_aloadn hP 16 0 dX6_beyond_15 rfl rfl mm0 ?_
  refine x_getr hP 19 167 dX6_beyond_16 rfl fl_RX6_7 (hG.O_166) (by decide) rfl (hG.R_166_0) ?_
  refine x_iloadn hP 20 1 dX6_beyond_19 rfl rfl mm1 ?_
  refine x_iconst hP 21 dX6_beyond_20 rfl ?_
  refine x_iadd hP 22 dX6_beyond_21 rfl ?_
  obtain ⟨hs, h⟩ := h
  refine x_iald hP 23 dX6_beyond_22 rfl (hG.A_167) (by decide) hs ?_
  refine x_imul hP 24 dX6_beyond_23 rfl ?_
  refine x_iconst hP 25 dX6_beyond_24 rfl ?_
  refine x_isub hP 26 dX6_beyond_25 rfl ?_
  obtain ⟨hs, h⟩ := h
  refine x_i2l hP 27 dX6_beyond_26 rfl hs ?_
  obtain ⟨v1, hc, h⟩ := h
  refine x_cs hP 30 [vJ b, vJ 0, vJ (((3 * (σ 167 (Int.toNat (a + 0)))) * (σ 167 (Int.toNat (a + 1)))) - 1)] [] dX6_beyond_27 rfl ml_RX6_50 sm_X6_in it_RX6 pp_X6_in bd_X6_in rfl rfl ⟨Nat.le_refl _, Nat.le_refl _⟩ (by simp [pC]) hc ?_
  obtain ⟨hs1, h⟩ := h
  refine x_ifc hP 33 35 (¬ v1 = 0) dX6_beyond_30 rfl rfl hs1 rfl (fun hbr => ?_) (fun hbr => ?_)
  · replace h := h.1 hbr
    refine x_iloadn hP 36 2 dX6_beyond_35 rfl rfl mm2 ?_
    refine x_iconst hP 37 dX6_beyond_36 rfl ?_
    obtain ⟨hs, h⟩ := h
    refine x_idiv hP 38 dX6_beyond_37 rfl hs (by decide) (by decide) ?_
    refine x_istore hP 40 [(0, vR (some 166)), (1, vI a), (2, vI b), (3, vI (σ 167 (Int.toNat (a + 0)))), (4, vI (Int.tdiv b 3))] dX6_beyond_38 rfl (by decide) rfl rfl ?_
    refine x_iloadn hP 41 2 dX6_beyond_40 rfl rfl mm2 ?_
    refine x_iconst hP 42 dX6_beyond_41 rfl ?_
    obtain ⟨hs, h⟩ := h
    refine x_irem hP 43 dX6_beyond_42 rfl hs (by decide) (by decide) ?_
    obtain ⟨hs1, h⟩ := h
    refine x_ifc hP 46 72 (¬ (Int.tmod b 3) = 0) dX6_beyond_43 rfl rfl hs1 rfl (fun hbr => ?_) (fun hbr => ?_)
    · replace h := h.1 hbr
      refine x_iloadn hP 73 2 dX6_beyond_72 rfl rfl mm2 ?_
      refine x_iconst hP 74 dX6_beyond_73 rfl ?_
      obtain ⟨hs, h⟩ := h
      refine x_irem hP 75 dX6_beyond_74 rfl hs (by decide) (by decide) ?_
      refine x_iconst hP 76 dX6_beyond_75 rfl ?_
      obtain ⟨hs1, h⟩ := h
      refine x_icmp hP 79 98 (¬ (Int.tmod b 3) = 1) dX6_beyond_76 rfl rfl hs1 (by decide) rfl (fun hbr => ?_) (fun hbr => ?_)
      · replace h := h.1 hbr
        refine x_iload hP 100 dX6_beyond_98 rfl mm4 ?_
        refine x_iloadn hP 101 3 dX6_beyond_100 rfl rfl mm3 ?_
        obtain ⟨hs, h⟩ := h
        refine x_irem hP 102 dX6_beyond_101 rfl hs.1 hs.2.1 hs.2.2 ?_
        obtain ⟨hs1, h⟩ := h
        refine x_ifc hP 105 112 ((Int.tmod (Int.tdiv b 3) (σ 167 (Int.toNat (a + 0)))) ≤ 0) dX6_beyond_102 rfl rfl hs1 rfl (fun hbr => ?_) (fun hbr => ?_)
        · replace h := h.1 hbr
          refine x_iconst hP 113 dX6_beyond_112 rfl ?_
          exact x_iret hP dX6_beyond_113 ⟨Nat.le_refl _, Nat.le_refl _⟩ h
        · replace h := h.2 hbr
          refine x_iload hP 107 dX6_beyond_105 rfl mm4 ?_
          refine x_iconst hP 108 dX6_beyond_107 rfl ?_
          refine x_isub hP 109 dX6_beyond_108 rfl ?_
          refine x_goto hP 113 dX6_beyond_109 rfl ?_
          exact x_iret hP dX6_beyond_113 ⟨Nat.le_refl _, Nat.le_refl _⟩ h
      · replace h := h.2 hbr
        refine x_iload hP 81 dX6_beyond_79 rfl mm4 ?_
        refine x_iloadn hP 82 3 dX6_beyond_81 rfl rfl mm3 ?_
        obtain ⟨hs, h⟩ := h
        refine x_irem hP 83 dX6_beyond_82 rfl hs.1 hs.2.1 hs.2.2 ?_
        refine x_iconst hP 84 dX6_beyond_83 rfl ?_
        refine x_iadd hP 85 dX6_beyond_84 rfl ?_
        refine x_iloadn hP 86 3 dX6_beyond_85 rfl rfl mm3 ?_
        obtain ⟨hs1, hs2, h⟩ := h
        refine x_icmp hP 89 96 ((σ 167 (Int.toNat (a + 0))) ≤ ((Int.tmod (Int.tdiv b 3) (σ 167 (Int.toNat (a + 0)))) + 1)) dX6_beyond_86 rfl rfl hs1 hs2 rfl (fun hbr => ?_) (fun hbr => ?_)
        · replace h := h.1 hbr
          refine x_iconst hP 97 dX6_beyond_96 rfl ?_
          exact x_iret hP dX6_beyond_97 ⟨Nat.le_refl _, Nat.le_refl _⟩ h
        · replace h := h.2 hbr
          refine x_iload hP 91 dX6_beyond_89 rfl mm4 ?_
          refine x_iconst hP 92 dX6_beyond_91 rfl ?_
          refine x_iadd hP 93 dX6_beyond_92 rfl ?_
          refine x_goto hP 97 dX6_beyond_93 rfl ?_
          exact x_iret hP dX6_beyond_97 ⟨Nat.le_refl _, Nat.le_refl _⟩ h
    · replace h := h.2 hbr
      refine x_iload hP 48 dX6_beyond_46 rfl mm4 ?_
      refine x_iloadn hP 49 3 dX6_beyond_48 rfl rfl mm3 ?_
      refine x_iadd hP 50 dX6_beyond_49 rfl ?_
      refine x_iloadn hP 51 3 dX6_beyond_50 rfl rfl mm3 ?_
      refine x_aloadn hP 52 0 dX6_beyond_51 rfl rfl mm0 ?_
      refine x_getr hP 55 167 dX6_beyond_52 rfl fl_RX6_7 (hG.O_166) (by decide) rfl (hG.R_166_0) ?_
      refine x_iloadn hP 56 1 dX6_beyond_55 rfl rfl mm1 ?_
      refine x_iconst hP 57 dX6_beyond_56 rfl ?_
      refine x_iadd hP 58 dX6_beyond_57 rfl ?_
      obtain ⟨hs, h⟩ := h
      refine x_iald hP 59 dX6_beyond_58 rfl (hG.A_167) (by decide) hs ?_
      refine x_imul hP 60 dX6_beyond_59 rfl ?_
      obtain ⟨hs1, hs2, h⟩ := h
      refine x_icmp hP 63 70 (((σ 167 (Int.toNat (a + 0))) * (σ 167 (Int.toNat (a + 1)))) ≤ ((Int.tdiv b 3) + (σ 167 (Int.toNat (a + 0))))) dX6_beyond_60 rfl rfl hs1 hs2 rfl (fun hbr => ?_) (fun hbr => ?_)
      · replace h := h.1 hbr
        refine x_iconst hP 71 dX6_beyond_70 rfl ?_
        exact x_iret hP dX6_beyond_71 ⟨Nat.le_refl _, Nat.le_refl _⟩ h
      · replace h := h.2 hbr
        refine x_iload hP 65 dX6_beyond_63 rfl mm4 ?_
        refine x_iloadn hP 66 3 dX6_beyond_65 rfl rfl mm3 ?_
        refine x_iadd hP 67 dX6_beyond_66 rfl ?_
        refine x_goto hP 71 dX6_beyond_67 rfl ?_
        exact x_iret hP dX6_beyond_71 ⟨Nat.le_refl _, Nat.le_refl _⟩ h
  · replace h := h.2 hbr
    refine x_iconst hP 34 dX6_beyond_33 rfl ?_
    exact x_iret hP dX6_beyond_34 ⟨Nat.le_refl _, Nat.le_refl _⟩ h
theorem k_X6_isOpen_0 {d : Nat} {Q : pQ} {P : pP} {g : pG} {σ : pM} (hP : Clo (pCall d) yX6_isOpen cX6_isOpen (some .boolean) 4 0 0 Q P) (a : Int) (b : Int) (hG : gAll g) (h : ∃ (v1 : Int), Ca d yX6_beyond [vR (some 166), vI a, vI b] g σ [vI v1] g σ ∧ iR v1 ∧ (v1 = ((-1)) → Q [vI 0] g σ) ∧ (¬ (v1 = ((-1))) → iR b ∧ ∃ (v2 : Int), Ca d yX6_isPoured [vR (some 166), vI a, vI (Int.tdiv b 3)] g σ [vI v2] g σ ∧ iR v2 ∧ (v2 = 0 → Q [vI 0] g σ) ∧ (¬ (v2 = 0) → ∃ (v3 : Int), Ca d yX6_isPoured [vR (some 166), vI a, vI v1] g σ [vI v3] g σ ∧ iR v3 ∧ (¬ v3 = 0 → Q [vI 0] g σ) ∧ (¬ (¬ v3 = 0) → Q [vI 1] g σ)))) : P 0 [(0, vR (some 166)), (1, vI a), (2, vI b)] [] g σ 0 0 := by
  refine x_aloadn hP 1 0 dX6_isOpen_0 rfl rfl mm0 ?_
  refine x_iloadn hP 2 1 dX6_isOpen_1 rfl rfl mm1 ?_
  refine x_iloadn hP 3 2 dX6_isOpen_2 rfl rfl mm2 ?_
  obtain ⟨v1, hc, h⟩ := h
  refine x_cv hP 6 [vI a, vI b] [] dX6_isOpen_3 rfl (hG.O_166) (by decide) rfl ml_RX6_70 im_X6_beyond se_X6_beyond it_RX6 pp_X6_beyond bd_X6_beyond rfl rfl ⟨Nat.le_refl _, Nat.le_refl _⟩ (by simp [pC]) hc ?_
  refine x_istoren hP 7 3 [(0, vR (some 166)), (1, vI a), (2, vI b), (3, vI v1)] dX6_isOpen_6 rfl rfl (by decide) rfl rfl ?_
  refine x_iloadn hP 8 3 dX6_isOpen_7 rfl rfl mm3 ?_
  refine x_iconst hP 9 dX6_isOpen_8 rfl ?_
  obtain ⟨hs1, h⟩ := h
  refine x_icmp hP 12 36 (v1 = ((-1))) dX6_isOpen_9 rfl rfl hs1 (by decide) rfl (fun hbr => ?_) (fun hbr => ?_)
  · replace h := h.1 hbr
    refine x_iconst hP 37 dX6_isOpen_36 rfl ?_
    exact x_zret hP dX6_isOpen_37 ⟨Nat.le_refl _, Nat.le_refl _⟩ (by decide) h
  · replace h := h.2 hbr
    refine x_aloadn hP 13 0 dX6_isOpen_12 rfl rfl mm0 ?_
    refine x_iloadn hP 14 1 dX6_isOpen_13 rfl rfl mm1 ?_
    refine x_iloadn hP 15 2 dX6_isOpen_14 rfl rfl mm2 ?_
    refine x_iconst hP 16 dX6_isOpen_15 rfl ?_
    obtain ⟨hs, h⟩ := h
    refine x_idiv hP 17 dX6_isOpen_16 rfl hs (by decide) (by decide) ?_
    obtain ⟨v2, hc, h⟩ := h
    refine x_cv hP 20 [vI a, vI (Int.tdiv b 3)] [] dX6_isOpen_17 rfl (hG.O_166) (by decide) rfl ml_RX6_54 im_X6_isPoured se_X6_isPoured it_RX6 pp_X6_isPoured bd_X6_isPoured rfl rfl ⟨Nat.le_refl _, Nat.le_refl _⟩ (by simp [pC]) hc ?_
    obtain ⟨hs1, h⟩ := h
    refine x_ifc hP 23 36 (v2 = 0) dX6_isOpen_20 rfl rfl hs1 rfl (fun hbr => ?_) (fun hbr => ?_)
    · replace h := h.1 hbr
      refine x_iconst hP 37 dX6_isOpen_36 rfl ?_
      exact x_zret hP dX6_isOpen_37 ⟨Nat.le_refl _, Nat.le_refl _⟩ (by decide) h
    · replace h := h.2 hbr
      refine x_aloadn hP 24 0 dX6_isOpen_23 rfl rfl mm0 ?_
      refine x_iloadn hP 25 1 dX6_isOpen_24 rfl rfl mm1 ?_
      refine x_iloadn hP 26 3 dX6_isOpen_25 rfl rfl mm3 ?_
      obtain ⟨v3, hc, h⟩ := h
      refine x_cv hP 29 [vI a, vI v1] [] dX6_isOpen_26 rfl (hG.O_166) (by decide) rfl ml_RX6_54 im_X6_isPoured se_X6_isPoured it_RX6 pp_X6_isPoured bd_X6_isPoured rfl rfl ⟨Nat.le_refl _, Nat.le_refl _⟩ (by simp [pC]) hc ?_
      obtain ⟨hs1, h⟩ := h
      refine x_ifc hP 32 36 (¬ v3 = 0) dX6_isOpen_29 rfl rfl hs1 rfl (fun hbr => ?_) (fun hbr => ?_)
      · replace h := h.1 hbr
        refine x_iconst hP 37 dX6_isOpen_36 rfl ?_
        exact x_zret hP dX6_isOpen_37 ⟨Nat.le_refl _, Nat.le_refl _⟩ (by decide) h
      · replace h := h.2 hbr
        refine x_iconst hP 33 dX6_isOpen_32 rfl ?_
        refine x_goto hP 37 dX6_isOpen_33 rfl ?_
        exact x_zret hP dX6_isOpen_37 ⟨Nat.le_refl _, Nat.le_refl _⟩ (by decide) h
theorem k_X6_isJoint_0 {d : Nat} {Q : pQ} {P : pP} {g : pG} {σ : pM} (hP : Clo (pCall d) yX6_isJoint cX6_isJoint (some .boolean) 5 0 0 Q P) (a : Int) (b : Int) (hG : gAll g) (h : ∃ (v1 : Int), Ca d yX6_beyond [vR (some 166), vI a, vI b] g σ [vI v1] g σ ∧ iR v1 ∧ (v1 = ((-1)) → Q [vI 0] g σ) ∧ (¬ (v1 = ((-1))) → iR b ∧ ∃ (v2 : Int), Ca d yX6_isPoured [vR (some 166), vI a, vI (Int.tdiv b 3)] g σ [vI v2] g σ ∧ iR v2 ∧ (¬ v2 = 0 → ∃ (v3 : Int), Ca d yX6_isPoured [vR (some 166), vI a, vI v1] g σ [vI v3] g σ ∧ iR v3 ∧ (v3 = 0 → (0 ≤ (a + 2) ∧ (a + 2) < 1300) ∧ iR b ∧ (0 ≤ ((a + 43) + (Int.tdiv b 3)) ∧ ((a + 43) + (Int.tdiv b 3)) < 1300) ∧ (0 ≤ (a + 4) ∧ (a + 4) < 1300) ∧ iR ((σ 167 (Int.toNat (a + 2))) - (σ 167 (Int.toNat ((a + 43) + (Int.tdiv b 3))))) ∧ iR (σ 167 (Int.toNat (a + 4))) ∧ (((σ 167 (Int.toNat (a + 2))) - (σ 167 (Int.toNat ((a + 43) + (Int.tdiv b 3))))) ≤ (σ 167 (Int.toNat (a + 4))) → Q [vI 0] g σ) ∧ (¬ (((σ 167 (Int.toNat (a + 2))) - (σ 167 (Int.toNat ((a + 43) + (Int.tdiv b 3))))) ≤ (σ 167 (Int.toNat (a + 4)))) → Q [vI 1] g σ)) ∧ (¬ (v3 = 0) → (0 ≤ ((a + 34) + v1) ∧ ((a + 34) + v1) < 1300) ∧ iR b ∧ (0 ≤ ((a + 43) + (Int.tdiv b 3)) ∧ ((a + 43) + (Int.tdiv b 3)) < 1300) ∧ (0 ≤ (a + 4) ∧ (a + 4) < 1300) ∧ iR ((σ 167 (Int.toNat ((a + 34) + v1))) - (σ 167 (Int.toNat ((a + 43) + (Int.tdiv b 3))))) ∧ iR (σ 167 (Int.toNat (a + 4))) ∧ (((σ 167 (Int.toNat ((a + 34) + v1))) - (σ 167 (Int.toNat ((a + 43) + (Int.tdiv b 3))))) ≤ (σ 167 (Int.toNat (a + 4))) → Q [vI 0] g σ) ∧ (¬ (((σ 167 (Int.toNat ((a + 34) + v1))) - (σ 167 (Int.toNat ((a + 43) + (Int.tdiv b 3))))) ≤ (σ 167 (Int.toNat (a + 4)))) → Q [vI 1] g σ))) ∧ (¬ (¬ v2 = 0) → Q [vI 0] g σ))) : P 0 [(0, vR (some 166)), (1, vI a), (2, vI b)] [] g σ 0 0 := by
  refine x_aloadn hP 1 0 dX6_isJoint_0 rfl rfl mm0 ?_
  refine x_iloadn hP 2 1 dX6_isJoint_1 rfl rfl mm1 ?_
  refine x_iloadn hP 3 2 dX6_isJoint_2 rfl rfl mm2 ?_
  obtain ⟨v1, hc, h⟩ := h
  refine x_cv hP 6 [vI a, vI b] [] dX6_isJoint_3 rfl (hG.O_166) (by decide) rfl ml_RX6_70 im_X6_beyond se_X6_beyond it_RX6 pp_X6_beyond bd_X6_beyond rfl rfl ⟨Nat.le_refl _, Nat.le_refl _⟩ (by simp [pC]) hc ?_
  refine x_istoren hP 7 3 [(0, vR (some 166)), (1, vI a), (2, vI b), (3, vI v1)] dX6_isJoint_6 rfl rfl (by decide) rfl rfl ?_
  refine x_iloadn hP 8 3 dX6_isJoint_7 rfl rfl mm3 ?_
  refine x_iconst hP 9 dX6_isJoint_8 rfl ?_
  obtain ⟨hs1, h⟩ := h
  refine x_icmp hP 12 23 (v1 = ((-1))) dX6_isJoint_9 rfl rfl hs1 (by decide) rfl (fun hbr => ?_) (fun hbr => ?_)
  · replace h := h.1 hbr
    refine x_iconst hP 24 dX6_isJoint_23 rfl ?_
    exact x_zret hP dX6_isJoint_24 ⟨Nat.le_refl _, Nat.le_refl _⟩ (by decide) h
  · replace h := h.2 hbr
    refine x_aloadn hP 13 0 dX6_isJoint_12 rfl rfl mm0 ?_
    refine x_iloadn hP 14 1 dX6_isJoint_13 rfl rfl mm1 ?_
    refine x_iloadn hP 15 2 dX6_isJoint_14 rfl rfl mm2 ?_
    refine x_iconst hP 16 dX6_isJoint_15 rfl ?_
    obtain ⟨hs, h⟩ := h
    refine x_idiv hP 17 dX6_isJoint_16 rfl hs (by decide) (by decide) ?_
    obtain ⟨v2, hc, h⟩ := h
    refine x_cv hP 20 [vI a, vI (Int.tdiv b 3)] [] dX6_isJoint_17 rfl (hG.O_166) (by decide) rfl ml_RX6_54 im_X6_isPoured se_X6_isPoured it_RX6 pp_X6_isPoured bd_X6_isPoured rfl rfl ⟨Nat.le_refl _, Nat.le_refl _⟩ (by simp [pC]) hc ?_
    obtain ⟨hs1, h⟩ := h
    refine x_ifc hP 23 25 (¬ v2 = 0) dX6_isJoint_20 rfl rfl hs1 rfl (fun hbr => ?_) (fun hbr => ?_)
    · replace h := h.1 hbr
      refine x_aloadn hP 26 0 dX6_isJoint_25 rfl rfl mm0 ?_
      refine x_iloadn hP 27 1 dX6_isJoint_26 rfl rfl mm1 ?_
      refine x_iloadn hP 28 3 dX6_isJoint_27 rfl rfl mm3 ?_
      obtain ⟨v3, hc, h⟩ := h
      refine x_cv hP 31 [vI a, vI v1] [] dX6_isJoint_28 rfl (hG.O_166) (by decide) rfl ml_RX6_54 im_X6_isPoured se_X6_isPoured it_RX6 pp_X6_isPoured bd_X6_isPoured rfl rfl ⟨Nat.le_refl _, Nat.le_refl _⟩ (by simp [pC]) hc ?_
      obtain ⟨hs1, h⟩ := h
      refine x_ifc hP 34 48 (v3 = 0) dX6_isJoint_31 rfl rfl hs1 rfl (fun hbr => ?_) (fun hbr => ?_)
      · replace h := h.1 hbr
        refine x_aloadn hP 49 0 dX6_isJoint_48 rfl rfl mm0 ?_
        refine x_getr hP 52 167 dX6_isJoint_49 rfl fl_RX6_7 (hG.O_166) (by decide) rfl (hG.R_166_0) ?_
        refine x_iloadn hP 53 1 dX6_isJoint_52 rfl rfl mm1 ?_
        refine x_iconst hP 54 dX6_isJoint_53 rfl ?_
        refine x_iadd hP 55 dX6_isJoint_54 rfl ?_
        obtain ⟨hs, h⟩ := h
        refine x_iald hP 56 dX6_isJoint_55 rfl (hG.A_167) (by decide) hs ?_
        refine x_istore hP 58 [(0, vR (some 166)), (1, vI a), (2, vI b), (3, vI v1), (4, vI (σ 167 (Int.toNat (a + 2))))] dX6_isJoint_56 rfl (by decide) rfl rfl ?_
        refine x_iload hP 60 dX6_isJoint_58 rfl mm4 ?_
        refine x_aloadn hP 61 0 dX6_isJoint_60 rfl rfl mm0 ?_
        refine x_getr hP 64 167 dX6_isJoint_61 rfl fl_RX6_7 (hG.O_166) (by decide) rfl (hG.R_166_0) ?_
        refine x_iloadn hP 65 1 dX6_isJoint_64 rfl rfl mm1 ?_
        refine x_bipush hP 67 dX6_isJoint_65 rfl (by decide) ?_
        refine x_iadd hP 68 dX6_isJoint_67 rfl ?_
        refine x_iloadn hP 69 2 dX6_isJoint_68 rfl rfl mm2 ?_
        refine x_iconst hP 70 dX6_isJoint_69 rfl ?_
        obtain ⟨hs, h⟩ := h
        refine x_idiv hP 71 dX6_isJoint_70 rfl hs (by decide) (by decide) ?_
        refine x_iadd hP 72 dX6_isJoint_71 rfl ?_
        obtain ⟨hs, h⟩ := h
        refine x_iald hP 73 dX6_isJoint_72 rfl (hG.A_167) (by decide) hs ?_
        refine x_isub hP 74 dX6_isJoint_73 rfl ?_
        refine x_aloadn hP 75 0 dX6_isJoint_74 rfl rfl mm0 ?_
        refine x_getr hP 78 167 dX6_isJoint_75 rfl fl_RX6_7 (hG.O_166) (by decide) rfl (hG.R_166_0) ?_
        refine x_iloadn hP 79 1 dX6_isJoint_78 rfl rfl mm1 ?_
        refine x_iconst hP 80 dX6_isJoint_79 rfl ?_
        refine x_iadd hP 81 dX6_isJoint_80 rfl ?_
        obtain ⟨hs, h⟩ := h
        refine x_iald hP 82 dX6_isJoint_81 rfl (hG.A_167) (by decide) hs ?_
        obtain ⟨hs1, hs2, h⟩ := h
        refine x_icmp hP 85 89 (((σ 167 (Int.toNat (a + 2))) - (σ 167 (Int.toNat ((a + 43) + (Int.tdiv b 3))))) ≤ (σ 167 (Int.toNat (a + 4)))) dX6_isJoint_82 rfl rfl hs1 hs2 rfl (fun hbr => ?_) (fun hbr => ?_)
        · replace h := h.1 hbr
          refine x_iconst hP 90 dX6_isJoint_89 rfl ?_
          exact x_zret hP dX6_isJoint_90 ⟨Nat.le_refl _, Nat.le_refl _⟩ (by decide) h
        · replace h := h.2 hbr
          refine x_iconst hP 86 dX6_isJoint_85 rfl ?_
          refine x_goto hP 90 dX6_isJoint_86 rfl ?_
          exact x_zret hP dX6_isJoint_90 ⟨Nat.le_refl _, Nat.le_refl _⟩ (by decide) h
      · replace h := h.2 hbr
        refine x_aloadn hP 35 0 dX6_isJoint_34 rfl rfl mm0 ?_
        refine x_getr hP 38 167 dX6_isJoint_35 rfl fl_RX6_7 (hG.O_166) (by decide) rfl (hG.R_166_0) ?_
        refine x_iloadn hP 39 1 dX6_isJoint_38 rfl rfl mm1 ?_
        refine x_bipush hP 41 dX6_isJoint_39 rfl (by decide) ?_
        refine x_iadd hP 42 dX6_isJoint_41 rfl ?_
        refine x_iloadn hP 43 3 dX6_isJoint_42 rfl rfl mm3 ?_
        refine x_iadd hP 44 dX6_isJoint_43 rfl ?_
        obtain ⟨hs, h⟩ := h
        refine x_iald hP 45 dX6_isJoint_44 rfl (hG.A_167) (by decide) hs ?_
        refine x_goto hP 56 dX6_isJoint_45 rfl ?_
        refine x_istore hP 58 [(0, vR (some 166)), (1, vI a), (2, vI b), (3, vI v1), (4, vI (σ 167 (Int.toNat ((a + 34) + v1))))] dX6_isJoint_56 rfl (by decide) rfl rfl ?_
        refine x_iload hP 60 dX6_isJoint_58 rfl mm4 ?_
        refine x_aloadn hP 61 0 dX6_isJoint_60 rfl rfl mm0 ?_
        refine x_getr hP 64 167 dX6_isJoint_61 rfl fl_RX6_7 (hG.O_166) (by decide) rfl (hG.R_166_0) ?_
        refine x_iloadn hP 65 1 dX6_isJoint_64 rfl rfl mm1 ?_
        refine x_bipush hP 67 dX6_isJoint_65 rfl (by decide) ?_
        refine x_iadd hP 68 dX6_isJoint_67 rfl ?_
        refine x_iloadn hP 69 2 dX6_isJoint_68 rfl rfl mm2 ?_
        refine x_iconst hP 70 dX6_isJoint_69 rfl ?_
        obtain ⟨hs, h⟩ := h
        refine x_idiv hP 71 dX6_isJoint_70 rfl hs (by decide) (by decide) ?_
        refine x_iadd hP 72 dX6_isJoint_71 rfl ?_
        obtain ⟨hs, h⟩ := h
        refine x_iald hP 73 dX6_isJoint_72 rfl (hG.A_167) (by decide) hs ?_
        refine x_isub hP 74 dX6_isJoint_73 rfl ?_
        refine x_aloadn hP 75 0 dX6_isJoint_74 rfl rfl mm0 ?_
        refine x_getr hP 78 167 dX6_isJoint_75 rfl fl_RX6_7 (hG.O_166) (by decide) rfl (hG.R_166_0) ?_
        refine x_iloadn hP 79 1 dX6_isJoint_78 rfl rfl mm1 ?_
        refine x_iconst hP 80 dX6_isJoint_79 rfl ?_
        refine x_iadd hP 81 dX6_isJoint_80 rfl ?_
        obtain ⟨hs, h⟩ := h
        refine x_iald hP 82 dX6_isJoint_81 rfl (hG.A_167) (by decide) hs ?_
        obtain ⟨hs1, hs2, h⟩ := h
        refine x_icmp hP 85 89 (((σ 167 (Int.toNat ((a + 34) + v1))) - (σ 167 (Int.toNat ((a + 43) + (Int.tdiv b 3))))) ≤ (σ 167 (Int.toNat (a + 4)))) dX6_isJoint_82 rfl rfl hs1 hs2 rfl (fun hbr => ?_) (fun hbr => ?_)
        · replace h := h.1 hbr
          refine x_iconst hP 90 dX6_isJoint_89 rfl ?_
          exact x_zret hP dX6_isJoint_90 ⟨Nat.le_refl _, Nat.le_refl _⟩ (by decide) h
        · replace h := h.2 hbr
          refine x_iconst hP 86 dX6_isJoint_85 rfl ?_
          refine x_goto hP 90 dX6_isJoint_86 rfl ?_
          exact x_zret hP dX6_isJoint_90 ⟨Nat.le_refl _, Nat.le_refl _⟩ (by decide) h
    · replace h := h.2 hbr
      refine x_iconst hP 24 dX6_isJoint_23 rfl ?_
      exact x_zret hP dX6_isJoint_24 ⟨Nat.le_refl _, Nat.le_refl _⟩ (by decide) h
theorem k_X6_harm_0 {d : Nat} {Q : pQ} {P : pP} {g : pG} {σ : pM} (hP : Clo (pCall d) yX6_harm cX6_harm (some .int) 6 0 0 Q P) (a : Int) (b : Int) (hG : gAll g) (h : P 5 [(0, vR (some 166)), (1, vI a), (2, vI b), (3, vI 0), (4, vI 0)] [] g σ 0 0) : P 0 [(0, vR (some 166)), (1, vI a), (2, vI b)] [] g σ 0 0 := by
  refine x_iconst hP 1 dX6_harm_0 rfl ?_
  refine x_istoren hP 2 3 [(0, vR (some 166)), (1, vI a), (2, vI b), (3, vI 0)] dX6_harm_1 rfl rfl (by decide) rfl rfl ?_
  refine x_iconst hP 3 dX6_harm_2 rfl ?_
  refine x_istore hP 5 [(0, vR (some 166)), (1, vI a), (2, vI b), (3, vI 0), (4, vI 0)] dX6_harm_3 rfl (by decide) rfl rfl ?_
  exact h
theorem k_X6_harm_5 {d : Nat} {Q : pQ} {P : pP} {g : pG} {σ : pM} (hP : Clo (pCall d) yX6_harm cX6_harm (some .int) 6 0 0 Q P) (x1 : Int) (x2 : Int) (x3 : Int) (x4 : Int) (hG : gAll g) (h : iR x4 ∧ (27 ≤ x4 → Q [vI x3] g σ) ∧ (¬ (27 ≤ x4) → ∃ (v1 : Int), Ca d yX6_isJoint [vR (some 166), vI x1, vI x4] g σ [vI v1] g σ ∧ iR v1 ∧ (¬ v1 = 0 → iR x4 ∧ iR (Int.tmod x4 3) ∧ (¬ (Int.tmod x4 3) = 0 → (0 ≤ (x1 + 6) ∧ (x1 + 6) < 1300) ∧ P 5 [(0, vR (some 166)), (1, vI x1), (2, vI x2), (3, vI (x3 + (σ 167 (Int.toNat (x1 + 6))))), (4, vI (x4 + 1))] [] g σ 0 0) ∧ (¬ (¬ (Int.tmod x4 3) = 0) → (0 ≤ (x1 + 5) ∧ (x1 + 5) < 1300) ∧ P 5 [(0, vR (some 166)), (1, vI x1), (2, vI x2), (3, vI (x3 + (σ 167 (Int.toNat (x1 + 5))))), (4, vI (x4 + 1))] [] g σ 0 0)) ∧ (¬ (¬ v1 = 0) → iR x2 ∧ (x2 = 0 → P 5 [(0, vR (some 166)), (1, vI x1), (2, vI x2), (3, vI (x3 + 0)), (4, vI (x4 + 1))] [] g σ 0 0) ∧ (¬ (x2 = 0) → ∃ (v2 : Int), Ca d yX6_isOpen [vR (some 166), vI x1, vI x4] g σ [vI v2] g σ ∧ iR v2 ∧ (v2 = 0 → P 5 [(0, vR (some 166)), (1, vI x1), (2, vI x2), (3, vI (x3 + 0)), (4, vI (x4 + 1))] [] g σ 0 0) ∧ (¬ (v2 = 0) → iR x4 ∧ iR (Int.tmod x4 3) ∧ (¬ (Int.tmod x4 3) = 0 → (0 ≤ (x1 + 6) ∧ (x1 + 6) < 1300) ∧ P 5 [(0, vR (some 166)), (1, vI x1), (2, vI x2), (3, vI (x3 + (σ 167 (Int.toNat (x1 + 6))))), (4, vI (x4 + 1))] [] g σ 0 0) ∧ (¬ (¬ (Int.tmod x4 3) = 0) → (0 ≤ (x1 + 5) ∧ (x1 + 5) < 1300) ∧ P 5 [(0, vR (some 166)), (1, vI x1), (2, vI x2), (3, vI (x3 + (σ 167 (Int.toNat (x1 + 5))))), (4, vI (x4 + 1))] [] g σ 0 0)))))) : P 5 [(0, vR (some 166)), (1, vI x1), (2, vI x2), (3, vI x3), (4, vI x4)] [] g σ 0 0 := by
  refine x_iload hP 7 dX6_harm_5 rfl mm4 ?_
  refine x_bipush hP 9 dX6_harm_7 rfl (by decide) ?_
  obtain ⟨hs1, h⟩ := h
  refine x_icmp hP 12 88 (27 ≤ x4) dX6_harm_9 rfl rfl hs1 (by decide) rfl (fun hbr => ?_) (fun hbr => ?_)
  · replace h := h.1 hbr
    refine x_iloadn hP 89 3 dX6_harm_88 rfl rfl mm3 ?_
    exact x_iret hP dX6_harm_89 ⟨Nat.le_refl _, Nat.le_refl _⟩ h
  · replace h := h.2 hbr
    refine x_aloadn hP 13 0 dX6_harm_12 rfl rfl mm0 ?_
    refine x_iloadn hP 14 1 dX6_harm_13 rfl rfl mm1 ?_
    refine x_iload hP 16 dX6_harm_14 rfl mm4 ?_
    obtain ⟨v1, hc, h⟩ := h
    refine x_cv hP 19 [vI x1, vI x4] [] dX6_harm_16 rfl (hG.O_166) (by decide) rfl ml_RX6_73 im_X6_isJoint se_X6_isJoint it_RX6 pp_X6_isJoint bd_X6_isJoint rfl rfl ⟨Nat.le_refl _, Nat.le_refl _⟩ (by simp [pC]) hc ?_
    obtain ⟨hs1, h⟩ := h
    refine x_ifc hP 22 36 (¬ v1 = 0) dX6_harm_19 rfl rfl hs1 rfl (fun hbr => ?_) (fun hbr => ?_)
    · replace h := h.1 hbr
      refine x_iconst hP 37 dX6_harm_36 rfl ?_
      refine x_goto hP 41 dX6_harm_37 rfl ?_
      refine x_istore hP 43 [(0, vR (some 166)), (1, vI x1), (2, vI x2), (3, vI x3), (4, vI x4), (5, vI 1)] dX6_harm_41 rfl (by decide) rfl rfl ?_
      refine x_iloadn hP 44 3 dX6_harm_43 rfl rfl mm3 ?_
      refine x_iload hP 46 dX6_harm_44 rfl mm5 ?_
      refine x_ifc hP 49 79 ((1 : Int) = 0) dX6_harm_46 rfl rfl (by decide) rfl (fun hbr => absurd hbr (by decide)) (fun _ => ?_)
      refine x_iload hP 51 dX6_harm_49 rfl mm4 ?_
      refine x_iconst hP 52 dX6_harm_51 rfl ?_
      obtain ⟨hs, h⟩ := h
      refine x_irem hP 53 dX6_harm_52 rfl hs (by decide) (by decide) ?_
      obtain ⟨hs1, h⟩ := h
      refine x_ifc hP 56 67 (¬ (Int.tmod x4 3) = 0) dX6_harm_53 rfl rfl hs1 rfl (fun hbr => ?_) (fun hbr => ?_)
      · replace h := h.1 hbr
        refine x_aloadn hP 68 0 dX6_harm_67 rfl rfl mm0 ?_
        refine x_getr hP 71 167 dX6_harm_68 rfl fl_RX6_7 (hG.O_166) (by decide) rfl (hG.R_166_0) ?_
        refine x_iloadn hP 72 1 dX6_harm_71 rfl rfl mm1 ?_
        refine x_bipush hP 74 dX6_harm_72 rfl (by decide) ?_
        refine x_iadd hP 75 dX6_harm_74 rfl ?_
        obtain ⟨hs, h⟩ := h
        refine x_iald hP 76 dX6_harm_75 rfl (hG.A_167) (by decide) hs ?_
        refine x_goto hP 80 dX6_harm_76 rfl ?_
        refine x_iadd hP 81 dX6_harm_80 rfl ?_
        refine x_istoren hP 82 3 [(0, vR (some 166)), (1, vI x1), (2, vI x2), (3, vI (x3 + (σ 167 (Int.toNat (x1 + 6))))), (4, vI x4), (5, vI 1)] dX6_harm_81 rfl rfl (by decide) rfl rfl ?_
        refine x_iinc hP 85 [(0, vR (some 166)), (1, vI x1), (2, vI x2), (3, vI (x3 + (σ 167 (Int.toNat (x1 + 6))))), (4, vI (x4 + 1)), (5, vI 1)] dX6_harm_82 rfl mm4 (by decide) rfl rfl ?_
        refine x_goto hP 5 dX6_harm_85 rfl ?_
        exact x_sub hP [0, 1, 2, 3, 4] rfl h
      · replace h := h.2 hbr
        refine x_aloadn hP 57 0 dX6_harm_56 rfl rfl mm0 ?_
        refine x_getr hP 60 167 dX6_harm_57 rfl fl_RX6_7 (hG.O_166) (by decide) rfl (hG.R_166_0) ?_
        refine x_iloadn hP 61 1 dX6_harm_60 rfl rfl mm1 ?_
        refine x_iconst hP 62 dX6_harm_61 rfl ?_
        refine x_iadd hP 63 dX6_harm_62 rfl ?_
        obtain ⟨hs, h⟩ := h
        refine x_iald hP 64 dX6_harm_63 rfl (hG.A_167) (by decide) hs ?_
        refine x_goto hP 80 dX6_harm_64 rfl ?_
        refine x_iadd hP 81 dX6_harm_80 rfl ?_
        refine x_istoren hP 82 3 [(0, vR (some 166)), (1, vI x1), (2, vI x2), (3, vI (x3 + (σ 167 (Int.toNat (x1 + 5))))), (4, vI x4), (5, vI 1)] dX6_harm_81 rfl rfl (by decide) rfl rfl ?_
        refine x_iinc hP 85 [(0, vR (some 166)), (1, vI x1), (2, vI x2), (3, vI (x3 + (σ 167 (Int.toNat (x1 + 5))))), (4, vI (x4 + 1)), (5, vI 1)] dX6_harm_82 rfl mm4 (by decide) rfl rfl ?_
        refine x_goto hP 5 dX6_harm_85 rfl ?_
        exact x_sub hP [0, 1, 2, 3, 4] rfl h
    · replace h := h.2 hbr
      refine x_iloadn hP 23 2 dX6_harm_22 rfl rfl mm2 ?_
      obtain ⟨hs1, h⟩ := h
      refine x_ifc hP 26 40 (x2 = 0) dX6_harm_23 rfl rfl hs1 rfl (fun hbr => ?_) (fun hbr => ?_)
      · replace h := h.1 hbr
        refine x_iconst hP 41 dX6_harm_40 rfl ?_
        refine x_istore hP 43 [(0, vR (some 166)), (1, vI x1), (2, vI x2), (3, vI x3), (4, vI x4), (5, vI 0)] dX6_harm_41 rfl (by decide) rfl rfl ?_
        refine x_iloadn hP 44 3 dX6_harm_43 rfl rfl mm3 ?_
        refine x_iload hP 46 dX6_harm_44 rfl mm5 ?_
        refine x_ifc hP 49 79 ((0 : Int) = 0) dX6_harm_46 rfl rfl (by decide) rfl (fun _ => ?_) (fun hbr => absurd hbr (by decide))
        refine x_iconst hP 80 dX6_harm_79 rfl ?_
        refine x_iadd hP 81 dX6_harm_80 rfl ?_
        refine x_istoren hP 82 3 [(0, vR (some 166)), (1, vI x1), (2, vI x2), (3, vI (x3 + 0)), (4, vI x4), (5, vI 0)] dX6_harm_81 rfl rfl (by decide) rfl rfl ?_
        refine x_iinc hP 85 [(0, vR (some 166)), (1, vI x1), (2, vI x2), (3, vI (x3 + 0)), (4, vI (x4 + 1)), (5, vI 0)] dX6_harm_82 rfl mm4 (by decide) rfl rfl ?_
        refine x_goto hP 5 dX6_harm_85 rfl ?_
        exact x_sub hP [0, 1, 2, 3, 4] rfl h
      · replace h := h.2 hbr
        refine x_aloadn hP 27 0 dX6_harm_26 rfl rfl mm0 ?_
        refine x_iloadn hP 28 1 dX6_harm_27 rfl rfl mm1 ?_
        refine x_iload hP 30 dX6_harm_28 rfl mm4 ?_
        obtain ⟨v2, hc, h⟩ := h
        refine x_cv hP 33 [vI x1, vI x4] [] dX6_harm_30 rfl (hG.O_166) (by decide) rfl ml_RX6_76 im_X6_isOpen se_X6_isOpen it_RX6 pp_X6_isOpen bd_X6_isOpen rfl rfl ⟨Nat.le_refl _, Nat.le_refl _⟩ (by simp [pC]) hc ?_
        obtain ⟨hs1, h⟩ := h
        refine x_ifc hP 36 40 (v2 = 0) dX6_harm_33 rfl rfl hs1 rfl (fun hbr => ?_) (fun hbr => ?_)
        · replace h := h.1 hbr
          refine x_iconst hP 41 dX6_harm_40 rfl ?_
          refine x_istore hP 43 [(0, vR (some 166)), (1, vI x1), (2, vI x2), (3, vI x3), (4, vI x4), (5, vI 0)] dX6_harm_41 rfl (by decide) rfl rfl ?_
          refine x_iloadn hP 44 3 dX6_harm_43 rfl rfl mm3 ?_
          refine x_iload hP 46 dX6_harm_44 rfl mm5 ?_
          refine x_ifc hP 49 79 ((0 : Int) = 0) dX6_harm_46 rfl rfl (by decide) rfl (fun _ => ?_) (fun hbr => absurd hbr (by decide))
          refine x_iconst hP 80 dX6_harm_79 rfl ?_
          refine x_iadd hP 81 dX6_harm_80 rfl ?_
          refine x_istoren hP 82 3 [(0, vR (some 166)), (1, vI x1), (2, vI x2), (3, vI (x3 + 0)), (4, vI x4), (5, vI 0)] dX6_harm_81 rfl rfl (by decide) rfl rfl ?_
          refine x_iinc hP 85 [(0, vR (some 166)), (1, vI x1), (2, vI x2), (3, vI (x3 + 0)), (4, vI (x4 + 1)), (5, vI 0)] dX6_harm_82 rfl mm4 (by decide) rfl rfl ?_
          refine x_goto hP 5 dX6_harm_85 rfl ?_
          exact x_sub hP [0, 1, 2, 3, 4] rfl h
        · replace h := h.2 hbr
          refine x_iconst hP 37 dX6_harm_36 rfl ?_
          refine x_goto hP 41 dX6_harm_37 rfl ?_
          refine x_istore hP 43 [(0, vR (some 166)), (1, vI x1), (2, vI x2), (3, vI x3), (4, vI x4), (5, vI 1)] dX6_harm_41 rfl (by decide) rfl rfl ?_
          refine x_iloadn hP 44 3 dX6_harm_43 rfl rfl mm3 ?_
          refine x_iload hP 46 dX6_harm_44 rfl mm5 ?_
          refine x_ifc hP 49 79 ((1 : Int) = 0) dX6_harm_46 rfl rfl (by decide) rfl (fun hbr => absurd hbr (by decide)) (fun _ => ?_)
          refine x_iload hP 51 dX6_harm_49 rfl mm4 ?_
          refine x_iconst hP 52 dX6_harm_51 rfl ?_
          obtain ⟨hs, h⟩ := h
          refine x_irem hP 53 dX6_harm_52 rfl hs (by decide) (by decide) ?_
          obtain ⟨hs1, h⟩ := h
          refine x_ifc hP 56 67 (¬ (Int.tmod x4 3) = 0) dX6_harm_53 rfl rfl hs1 rfl (fun hbr => ?_) (fun hbr => ?_)
          · replace h := h.1 hbr
            refine x_aloadn hP 68 0 dX6_harm_67 rfl rfl mm0 ?_
            refine x_getr hP 71 167 dX6_harm_68 rfl fl_RX6_7 (hG.O_166) (by decide) rfl (hG.R_166_0) ?_
            refine x_iloadn hP 72 1 dX6_harm_71 rfl rfl mm1 ?_
            refine x_bipush hP 74 dX6_harm_72 rfl (by decide) ?_
            refine x_iadd hP 75 dX6_harm_74 rfl ?_
            obtain ⟨hs, h⟩ := h
            refine x_iald hP 76 dX6_harm_75 rfl (hG.A_167) (by decide) hs ?_
            refine x_goto hP 80 dX6_harm_76 rfl ?_
            refine x_iadd hP 81 dX6_harm_80 rfl ?_
            refine x_istoren hP 82 3 [(0, vR (some 166)), (1, vI x1), (2, vI x2), (3, vI (x3 + (σ 167 (Int.toNat (x1 + 6))))), (4, vI x4), (5, vI 1)] dX6_harm_81 rfl rfl (by decide) rfl rfl ?_
            refine x_iinc hP 85 [(0, vR (some 166)), (1, vI x1), (2, vI x2), (3, vI (x3 + (σ 167 (Int.toNat (x1 + 6))))), (4, vI (x4 + 1)), (5, vI 1)] dX6_harm_82 rfl mm4 (by decide) rfl rfl ?_
            refine x_goto hP 5 dX6_harm_85 rfl ?_
            exact x_sub hP [0, 1, 2, 3, 4] rfl h
          · replace h := h.2 hbr
            refine x_aloadn hP 57 0 dX6_harm_56 rfl rfl mm0 ?_
            refine x_getr hP 60 167 dX6_harm_57 rfl fl_RX6_7 (hG.O_166) (by decide) rfl (hG.R_166_0) ?_
            refine x_iloadn hP 61 1 dX6_harm_60 rfl rfl mm1 ?_
            refine x_iconst hP 62 dX6_harm_61 rfl ?_
            refine x_iadd hP 63 dX6_harm_62 rfl ?_
            obtain ⟨hs, h⟩ := h
            refine x_iald hP 64 dX6_harm_63 rfl (hG.A_167) (by decide) hs ?_
            refine x_goto hP 80 dX6_harm_64 rfl ?_
            refine x_iadd hP 81 dX6_harm_80 rfl ?_
            refine x_istoren hP 82 3 [(0, vR (some 166)), (1, vI x1), (2, vI x2), (3, vI (x3 + (σ 167 (Int.toNat (x1 + 5))))), (4, vI x4), (5, vI 1)] dX6_harm_81 rfl rfl (by decide) rfl rfl ?_
            refine x_iinc hP 85 [(0, vR (some 166)), (1, vI x1), (2, vI x2), (3, vI (x3 + (σ 167 (Int.toNat (x1 + 5))))), (4, vI (x4 + 1)), (5, vI 1)] dX6_harm_82 rfl mm4 (by decide) rfl rfl ?_
            refine x_goto hP 5 dX6_harm_85 rfl ?_
            exact x_sub hP [0, 1, 2, 3, 4] rfl h
theorem k_X6_left_0 {d : Nat} {Q : pQ} {P : pP} {g : pG} {σ : pM} (hP : Clo (pCall d) yX6_left cX6_left (some .int) 2 0 0 Q P) (a : Int) (hG : gAll g) (h : ∃ (v1 : Int), Ca d yX6_isOpen [vR (some 166), vI 0, vI a] g σ [vI v1] g σ ∧ iR v1 ∧ (v1 = 0 → Q [vI ((-1000))] g σ) ∧ (¬ (v1 = 0) → ∃ (v2 : Int), Ca d yX6_isJoint [vR (some 166), vI 0, vI a] g σ [vI v2] g σ ∧ iR v2 ∧ (¬ v2 = 0 → Q [vI ((-1000))] g σ) ∧ (¬ (¬ v2 = 0) → iR a ∧ (0 ≤ (43 + (Int.tdiv a 3)) ∧ (43 + (Int.tdiv a 3)) < 1300) ∧ Q [vI (((σ 167 4) - (σ 167 2)) + (σ 167 (Int.toNat (43 + (Int.tdiv a 3)))))] g σ))) : P 0 [(0, vR (some 166)), (1, vI a)] [] g σ 0 0 := by
  refine x_aloadn hP 1 0 dX6_left_0 rfl rfl mm0 ?_
  refine x_iconst hP 2 dX6_left_1 rfl ?_
  refine x_iloadn hP 3 1 dX6_left_2 rfl rfl mm1 ?_
  obtain ⟨v1, hc, h⟩ := h
  refine x_cv hP 6 [vI 0, vI a] [] dX6_left_3 rfl (hG.O_166) (by decide) rfl ml_RX6_76 im_X6_isOpen se_X6_isOpen it_RX6 pp_X6_isOpen bd_X6_isOpen rfl rfl ⟨Nat.le_refl _, Nat.le_refl _⟩ (by simp [pC]) hc ?_
  obtain ⟨hs1, h⟩ := h
  refine x_ifc hP 9 46 (v1 = 0) dX6_left_6 rfl rfl hs1 rfl (fun hbr => ?_) (fun hbr => ?_)
  · replace h := h.1 hbr
    refine x_sipush hP 49 dX6_left_46 rfl (by decide) ?_
    exact x_iret hP dX6_left_49 ⟨Nat.le_refl _, Nat.le_refl _⟩ h
  · replace h := h.2 hbr
    refine x_aloadn hP 10 0 dX6_left_9 rfl rfl mm0 ?_
    refine x_iconst hP 11 dX6_left_10 rfl ?_
    refine x_iloadn hP 12 1 dX6_left_11 rfl rfl mm1 ?_
    obtain ⟨v2, hc, h⟩ := h
    refine x_cv hP 15 [vI 0, vI a] [] dX6_left_12 rfl (hG.O_166) (by decide) rfl ml_RX6_73 im_X6_isJoint se_X6_isJoint it_RX6 pp_X6_isJoint bd_X6_isJoint rfl rfl ⟨Nat.le_refl _, Nat.le_refl _⟩ (by simp [pC]) hc ?_
    obtain ⟨hs1, h⟩ := h
    refine x_ifc hP 18 46 (¬ v2 = 0) dX6_left_15 rfl rfl hs1 rfl (fun hbr => ?_) (fun hbr => ?_)
    · replace h := h.1 hbr
      refine x_sipush hP 49 dX6_left_46 rfl (by decide) ?_
      exact x_iret hP dX6_left_49 ⟨Nat.le_refl _, Nat.le_refl _⟩ h
    · replace h := h.2 hbr
      refine x_aloadn hP 19 0 dX6_left_18 rfl rfl mm0 ?_
      refine x_getr hP 22 167 dX6_left_19 rfl fl_RX6_7 (hG.O_166) (by decide) rfl (hG.R_166_0) ?_
      refine x_iconst hP 23 dX6_left_22 rfl ?_
      refine x_iald hP 24 dX6_left_23 rfl (hG.A_167) (by decide) (by decide) ?_
      refine x_aloadn hP 25 0 dX6_left_24 rfl rfl mm0 ?_
      refine x_getr hP 28 167 dX6_left_25 rfl fl_RX6_7 (hG.O_166) (by decide) rfl (hG.R_166_0) ?_
      refine x_iconst hP 29 dX6_left_28 rfl ?_
      refine x_iald hP 30 dX6_left_29 rfl (hG.A_167) (by decide) (by decide) ?_
      refine x_isub hP 31 dX6_left_30 rfl ?_
      refine x_aloadn hP 32 0 dX6_left_31 rfl rfl mm0 ?_
      refine x_getr hP 35 167 dX6_left_32 rfl fl_RX6_7 (hG.O_166) (by decide) rfl (hG.R_166_0) ?_
      refine x_bipush hP 37 dX6_left_35 rfl (by decide) ?_
      refine x_iloadn hP 38 1 dX6_left_37 rfl rfl mm1 ?_
      refine x_iconst hP 39 dX6_left_38 rfl ?_
      obtain ⟨hs, h⟩ := h
      refine x_idiv hP 40 dX6_left_39 rfl hs (by decide) (by decide) ?_
      refine x_iadd hP 41 dX6_left_40 rfl ?_
      obtain ⟨hs, h⟩ := h
      refine x_iald hP 42 dX6_left_41 rfl (hG.A_167) (by decide) hs ?_
      refine x_iadd hP 43 dX6_left_42 rfl ?_
      refine x_goto hP 49 dX6_left_43 rfl ?_
      exact x_iret hP dX6_left_49 ⟨Nat.le_refl _, Nat.le_refl _⟩ h
theorem k_X6_firstToSet_0 {d : Nat} {Q : pQ} {P : pP} {g : pG} {σ : pM} (hP : Clo (pCall d) yX6_firstToSet cX6_firstToSet (some .int) 3 0 0 Q P) (hG : gAll g) (h : P 4 [(0, vR (some 166)), (1, vI ((-1))), (2, vI 0)] [] g σ 0 0) : P 0 [(0, vR (some 166))] [] g σ 0 0 := by
  refine x_iconst hP 1 dX6_firstToSet_0 rfl ?_
  refine x_istoren hP 2 1 [(0, vR (some 166)), (1, vI ((-1)))] dX6_firstToSet_1 rfl rfl (by decide) rfl rfl ?_
  refine x_iconst hP 3 dX6_firstToSet_2 rfl ?_
  refine x_istoren hP 4 2 [(0, vR (some 166)), (1, vI ((-1))), (2, vI 0)] dX6_firstToSet_3 rfl rfl (by decide) rfl rfl ?_
  exact h
theorem k_X6_firstToSet_4 {d : Nat} {Q : pQ} {P : pP} {g : pG} {σ : pM} (hP : Clo (pCall d) yX6_firstToSet cX6_firstToSet (some .int) 3 0 0 Q P) (x1 : Int) (x2 : Int) (hG : gAll g) (h : iR x2 ∧ (27 ≤ x2 → Q [vI x1] g σ) ∧ (¬ (27 ≤ x2) → ∃ (v1 : Int), Ca d yX6_left [vR (some 166), vI x2] g σ [vI v1] g σ ∧ iR v1 ∧ (v1 = ((-1000)) → P 4 [(0, vR (some 166)), (1, vI x1), (2, vI (x2 + 1))] [] g σ 0 0) ∧ (¬ (v1 = ((-1000))) → iR x1 ∧ (x1 = ((-1)) → P 4 [(0, vR (some 166)), (1, vI x2), (2, vI (x2 + 1))] [] g σ 0 0) ∧ (¬ (x1 = ((-1))) → ∃ (v2 : Int), Ca d yX6_left [vR (some 166), vI x2] g σ [vI v2] g σ ∧ ∃ (v3 : Int), Ca d yX6_left [vR (some 166), vI x1] g σ [vI v3] g σ ∧ iR v2 ∧ iR v3 ∧ (v3 ≤ v2 → P 4 [(0, vR (some 166)), (1, vI x1), (2, vI (x2 + 1))] [] g σ 0 0) ∧ (¬ (v3 ≤ v2) → P 4 [(0, vR (some 166)), (1, vI x2), (2, vI (x2 + 1))] [] g σ 0 0))))) : P 4 [(0, vR (some 166)), (1, vI x1), (2, vI x2)] [] g σ 0 0 := by
  refine x_iloadn hP 5 2 dX6_firstToSet_4 rfl rfl mm2 ?_
  refine x_bipush hP 7 dX6_firstToSet_5 rfl (by decide) ?_
  obtain ⟨hs1, h⟩ := h
  refine x_icmp hP 10 51 (27 ≤ x2) dX6_firstToSet_7 rfl rfl hs1 (by decide) rfl (fun hbr => ?_) (fun hbr => ?_)
  · replace h := h.1 hbr
    refine x_iloadn hP 52 1 dX6_firstToSet_51 rfl rfl mm1 ?_
    exact x_iret hP dX6_firstToSet_52 ⟨Nat.le_refl _, Nat.le_refl _⟩ h
  · replace h := h.2 hbr
    refine x_aloadn hP 11 0 dX6_firstToSet_10 rfl rfl mm0 ?_
    refine x_iloadn hP 12 2 dX6_firstToSet_11 rfl rfl mm2 ?_
    obtain ⟨v1, hc, h⟩ := h
    refine x_cv hP 15 [vI x2] [] dX6_firstToSet_12 rfl (hG.O_166) (by decide) rfl ml_RX6_79 im_X6_left se_X6_left it_RX6 pp_X6_left bd_X6_left rfl rfl ⟨Nat.le_refl _, Nat.le_refl _⟩ (by simp [pC]) hc ?_
    refine x_sipush hP 18 dX6_firstToSet_15 rfl (by decide) ?_
    obtain ⟨hs1, h⟩ := h
    refine x_icmp hP 21 43 (v1 = ((-1000))) dX6_firstToSet_18 rfl rfl hs1 (by decide) rfl (fun hbr => ?_) (fun hbr => ?_)
    · replace h := h.1 hbr
      refine x_iloadn hP 44 1 dX6_firstToSet_43 rfl rfl mm1 ?_
      refine x_istoren hP 45 1 [(0, vR (some 166)), (1, vI x1), (2, vI x2)] dX6_firstToSet_44 rfl rfl (by decide) rfl rfl ?_
      refine x_iinc hP 48 [(0, vR (some 166)), (1, vI x1), (2, vI (x2 + 1))] dX6_firstToSet_45 rfl mm2 (by decide) rfl rfl ?_
      refine x_goto hP 4 dX6_firstToSet_48 rfl ?_
      exact h
    · replace h := h.2 hbr
      refine x_iloadn hP 22 1 dX6_firstToSet_21 rfl rfl mm1 ?_
      refine x_iconst hP 23 dX6_firstToSet_22 rfl ?_
      obtain ⟨hs1, h⟩ := h
      refine x_icmp hP 26 39 (x1 = ((-1))) dX6_firstToSet_23 rfl rfl hs1 (by decide) rfl (fun hbr => ?_) (fun hbr => ?_)
      · replace h := h.1 hbr
        refine x_iloadn hP 40 2 dX6_firstToSet_39 rfl rfl mm2 ?_
        refine x_goto hP 44 dX6_firstToSet_40 rfl ?_
        refine x_istoren hP 45 1 [(0, vR (some 166)), (1, vI x2), (2, vI x2)] dX6_firstToSet_44 rfl rfl (by decide) rfl rfl ?_
        refine x_iinc hP 48 [(0, vR (some 166)), (1, vI x2), (2, vI (x2 + 1))] dX6_firstToSet_45 rfl mm2 (by decide) rfl rfl ?_
        refine x_goto hP 4 dX6_firstToSet_48 rfl ?_
        exact h
      · replace h := h.2 hbr
        refine x_aloadn hP 27 0 dX6_firstToSet_26 rfl rfl mm0 ?_
        refine x_iloadn hP 28 2 dX6_firstToSet_27 rfl rfl mm2 ?_
        obtain ⟨v2, hc, h⟩ := h
        refine x_cv hP 31 [vI x2] [] dX6_firstToSet_28 rfl (hG.O_166) (by decide) rfl ml_RX6_79 im_X6_left se_X6_left it_RX6 pp_X6_left bd_X6_left rfl rfl ⟨Nat.le_refl _, Nat.le_refl _⟩ (by simp [pC]) hc ?_
        refine x_aloadn hP 32 0 dX6_firstToSet_31 rfl rfl mm0 ?_
        refine x_iloadn hP 33 1 dX6_firstToSet_32 rfl rfl mm1 ?_
        obtain ⟨v3, hc, h⟩ := h
        refine x_cv hP 36 [vI x1] [vI v2] dX6_firstToSet_33 rfl (hG.O_166) (by decide) rfl ml_RX6_79 im_X6_left se_X6_left it_RX6 pp_X6_left bd_X6_left rfl rfl ⟨Nat.le_refl _, Nat.le_refl _⟩ (by simp [pC]) hc ?_
        obtain ⟨hs1, hs2, h⟩ := h
        refine x_icmp hP 39 43 (v3 ≤ v2) dX6_firstToSet_36 rfl rfl hs1 hs2 rfl (fun hbr => ?_) (fun hbr => ?_)
        · replace h := h.1 hbr
          refine x_iloadn hP 44 1 dX6_firstToSet_43 rfl rfl mm1 ?_
          refine x_istoren hP 45 1 [(0, vR (some 166)), (1, vI x1), (2, vI x2)] dX6_firstToSet_44 rfl rfl (by decide) rfl rfl ?_
          refine x_iinc hP 48 [(0, vR (some 166)), (1, vI x1), (2, vI (x2 + 1))] dX6_firstToSet_45 rfl mm2 (by decide) rfl rfl ?_
          refine x_goto hP 4 dX6_firstToSet_48 rfl ?_
          exact h
        · replace h := h.2 hbr
          refine x_iloadn hP 40 2 dX6_firstToSet_39 rfl rfl mm2 ?_
          refine x_goto hP 44 dX6_firstToSet_40 rfl ?_
          refine x_istoren hP 45 1 [(0, vR (some 166)), (1, vI x2), (2, vI x2)] dX6_firstToSet_44 rfl rfl (by decide) rfl rfl ?_
          refine x_iinc hP 48 [(0, vR (some 166)), (1, vI x2), (2, vI (x2 + 1))] dX6_firstToSet_45 rfl mm2 (by decide) rfl rfl ?_
          refine x_goto hP 4 dX6_firstToSet_48 rfl ?_
          exact h
theorem k_X6_weighs_0 {d : Nat} {Q : pQ} {P : pP} {g : pG} {σ : pM} (hP : Clo (pCall d) yX6_weighs cX6_weighs none 5 0 0 Q P) (a : Int) (hG : gAll g) (h : ∃ (v1 : Int), Ca d yX6_harm [vR (some 166), vI 52, vI 0] g σ [vI v1] g σ ∧ iR (σ 166 8) ∧ ((σ 166 8) = ((-1)) → P 80 [(0, vR (some 166)), (1, vI a), (4, vI 0)] [] g (up2 (up2 (up2 σ 166 8 a) 166 9 v1) 166 10 ((up2 (up2 σ 166 8 a) 166 9 v1) 167 54)) 0 0) ∧ (¬ ((σ 166 8) = ((-1))) → iR v1 ∧ iR (σ 166 9) ∧ (v1 < (σ 166 9) → P 80 [(0, vR (some 166)), (1, vI a), (4, vI 0)] [] g (up2 (up2 (up2 σ 166 8 a) 166 9 v1) 166 10 ((up2 (up2 σ 166 8 a) 166 9 v1) 167 54)) 0 0) ∧ (¬ (v1 < (σ 166 9)) → iR v1 ∧ iR (σ 166 9) ∧ (¬ v1 = (σ 166 9) → Q [] g σ) ∧ (¬ (¬ v1 = (σ 166 9)) → iR (σ 167 54) ∧ iR (σ 166 10) ∧ ((σ 166 10) ≤ (σ 167 54) → Q [] g σ) ∧ (¬ ((σ 166 10) ≤ (σ 167 54)) → P 80 [(0, vR (some 166)), (1, vI a), (4, vI 0)] [] g (up2 (up2 (up2 σ 166 8 a) 166 9 v1) 166 10 ((up2 (up2 σ 166 8 a) 166 9 v1) 167 54)) 0 0))))) : P 0 [(0, vR (some 166)), (1, vI a)] [] g σ 0 0 := by
  refine x_aloadn hP 1 0 dX6_weighs_0 rfl rfl mm0 ?_
  refine x_bipush hP 3 dX6_weighs_1 rfl (by decide) ?_
  refine x_iconst hP 4 dX6_weighs_3 rfl ?_
  obtain ⟨v1, hc, h⟩ := h
  refine x_cv hP 7 [vI 52, vI 0] [] dX6_weighs_4 rfl (hG.O_166) (by decide) rfl ml_RX6_82 im_X6_harm se_X6_harm it_RX6 pp_X6_harm bd_X6_harm rfl rfl ⟨Nat.le_refl _, Nat.le_refl _⟩ (by simp [pC]) hc ?_
  refine x_istoren hP 8 2 [(0, vR (some 166)), (1, vI a), (2, vI v1)] dX6_weighs_7 rfl rfl (by decide) rfl rfl ?_
  refine x_aloadn hP 9 0 dX6_weighs_8 rfl rfl mm0 ?_
  refine x_geti hP 12 dX6_weighs_9 rfl fl_RX6_86 (hG.O_166) (by decide) rfl ?_
  refine x_iconst hP 13 dX6_weighs_12 rfl ?_
  obtain ⟨hs1, h⟩ := h
  refine x_icmp hP 16 46 ((σ 166 8) = ((-1))) dX6_weighs_13 rfl rfl hs1 (by decide) rfl (fun hbr => ?_) (fun hbr => ?_)
  · replace h := h.1 hbr
    refine x_iconst hP 47 dX6_weighs_46 rfl ?_
    refine x_goto hP 51 dX6_weighs_47 rfl ?_
    refine x_istoren hP 52 3 [(0, vR (some 166)), (1, vI a), (2, vI v1), (3, vI 1)] dX6_weighs_51 rfl rfl (by decide) rfl rfl ?_
    refine x_iloadn hP 53 3 dX6_weighs_52 rfl rfl mm3 ?_
    refine x_ifc hP 56 106 ((1 : Int) = 0) dX6_weighs_53 rfl rfl (by decide) rfl (fun hbr => absurd hbr (by decide)) (fun _ => ?_)
    refine x_aloadn hP 57 0 dX6_weighs_56 rfl rfl mm0 ?_
    refine x_iloadn hP 58 1 dX6_weighs_57 rfl rfl mm1 ?_
    refine x_putf hP 61 dX6_weighs_58 rfl fl_RX6_86 (hG.O_166) (by decide) rfl rfl (fun hz => absurd hz (by decide)) ?_
    refine x_aloadn hP 62 0 dX6_weighs_61 rfl rfl mm0 ?_
    refine x_iloadn hP 63 2 dX6_weighs_62 rfl rfl mm2 ?_
    refine x_putf hP 66 dX6_weighs_63 rfl fl_RX6_89 (hG.O_166) (by decide) rfl rfl (fun hz => absurd hz (by decide)) ?_
    refine x_aloadn hP 67 0 dX6_weighs_66 rfl rfl mm0 ?_
    refine x_aloadn hP 68 0 dX6_weighs_67 rfl rfl mm0 ?_
    refine x_getr hP 71 167 dX6_weighs_68 rfl fl_RX6_7 (hG.O_166) (by decide) rfl (hG.R_166_0) ?_
    refine x_bipush hP 73 dX6_weighs_71 rfl (by decide) ?_
    refine x_iald hP 74 dX6_weighs_73 rfl (hG.A_167) (by decide) (by decide) ?_
    refine x_putf hP 77 dX6_weighs_74 rfl fl_RX6_92 (hG.O_166) (by decide) rfl rfl (fun hz => absurd hz (by decide)) ?_
    refine x_iconst hP 78 dX6_weighs_77 rfl ?_
    refine x_istore hP 80 [(0, vR (some 166)), (1, vI a), (2, vI v1), (3, vI 1), (4, vI 0)] dX6_weighs_78 rfl (by decide) rfl rfl ?_
    exact x_sub hP [0, 1, 4] rfl h
  · replace h := h.2 hbr
    refine x_iloadn hP 17 2 dX6_weighs_16 rfl rfl mm2 ?_
    refine x_aloadn hP 18 0 dX6_weighs_17 rfl rfl mm0 ?_
    refine x_geti hP 21 dX6_weighs_18 rfl fl_RX6_89 (hG.O_166) (by decide) rfl ?_
    obtain ⟨hs1, hs2, h⟩ := h
    refine x_icmp hP 24 46 (v1 < (σ 166 9)) dX6_weighs_21 rfl rfl hs1 hs2 rfl (fun hbr => ?_) (fun hbr => ?_)
    · replace h := h.1 hbr
      refine x_iconst hP 47 dX6_weighs_46 rfl ?_
      refine x_goto hP 51 dX6_weighs_47 rfl ?_
      refine x_istoren hP 52 3 [(0, vR (some 166)), (1, vI a), (2, vI v1), (3, vI 1)] dX6_weighs_51 rfl rfl (by decide) rfl rfl ?_
      refine x_iloadn hP 53 3 dX6_weighs_52 rfl rfl mm3 ?_
      refine x_ifc hP 56 106 ((1 : Int) = 0) dX6_weighs_53 rfl rfl (by decide) rfl (fun hbr => absurd hbr (by decide)) (fun _ => ?_)
      refine x_aloadn hP 57 0 dX6_weighs_56 rfl rfl mm0 ?_
      refine x_iloadn hP 58 1 dX6_weighs_57 rfl rfl mm1 ?_
      refine x_putf hP 61 dX6_weighs_58 rfl fl_RX6_86 (hG.O_166) (by decide) rfl rfl (fun hz => absurd hz (by decide)) ?_
      refine x_aloadn hP 62 0 dX6_weighs_61 rfl rfl mm0 ?_
      refine x_iloadn hP 63 2 dX6_weighs_62 rfl rfl mm2 ?_
      refine x_putf hP 66 dX6_weighs_63 rfl fl_RX6_89 (hG.O_166) (by decide) rfl rfl (fun hz => absurd hz (by decide)) ?_
      refine x_aloadn hP 67 0 dX6_weighs_66 rfl rfl mm0 ?_
      refine x_aloadn hP 68 0 dX6_weighs_67 rfl rfl mm0 ?_
      refine x_getr hP 71 167 dX6_weighs_68 rfl fl_RX6_7 (hG.O_166) (by decide) rfl (hG.R_166_0) ?_
      refine x_bipush hP 73 dX6_weighs_71 rfl (by decide) ?_
      refine x_iald hP 74 dX6_weighs_73 rfl (hG.A_167) (by decide) (by decide) ?_
      refine x_putf hP 77 dX6_weighs_74 rfl fl_RX6_92 (hG.O_166) (by decide) rfl rfl (fun hz => absurd hz (by decide)) ?_
      refine x_iconst hP 78 dX6_weighs_77 rfl ?_
      refine x_istore hP 80 [(0, vR (some 166)), (1, vI a), (2, vI v1), (3, vI 1), (4, vI 0)] dX6_weighs_78 rfl (by decide) rfl rfl ?_
      exact x_sub hP [0, 1, 4] rfl h
    · replace h := h.2 hbr
      refine x_iloadn hP 25 2 dX6_weighs_24 rfl rfl mm2 ?_
      refine x_aloadn hP 26 0 dX6_weighs_25 rfl rfl mm0 ?_
      refine x_geti hP 29 dX6_weighs_26 rfl fl_RX6_89 (hG.O_166) (by decide) rfl ?_
      obtain ⟨hs1, hs2, h⟩ := h
      refine x_icmp hP 32 50 (¬ v1 = (σ 166 9)) dX6_weighs_29 rfl rfl hs1 hs2 rfl (fun hbr => ?_) (fun hbr => ?_)
      · replace h := h.1 hbr
        refine x_iconst hP 51 dX6_weighs_50 rfl ?_
        refine x_istoren hP 52 3 [(0, vR (some 166)), (1, vI a), (2, vI v1), (3, vI 0)] dX6_weighs_51 rfl rfl (by decide) rfl rfl ?_
        refine x_iloadn hP 53 3 dX6_weighs_52 rfl rfl mm3 ?_
        refine x_ifc hP 56 106 ((0 : Int) = 0) dX6_weighs_53 rfl rfl (by decide) rfl (fun _ => ?_) (fun hbr => absurd hbr (by decide))
        exact x_vret hP dX6_weighs_106 ⟨Nat.le_refl _, Nat.le_refl _⟩ h
      · replace h := h.2 hbr
        refine x_aloadn hP 33 0 dX6_weighs_32 rfl rfl mm0 ?_
        refine x_getr hP 36 167 dX6_weighs_33 rfl fl_RX6_7 (hG.O_166) (by decide) rfl (hG.R_166_0) ?_
        refine x_bipush hP 38 dX6_weighs_36 rfl (by decide) ?_
        refine x_iald hP 39 dX6_weighs_38 rfl (hG.A_167) (by decide) (by decide) ?_
        refine x_aloadn hP 40 0 dX6_weighs_39 rfl rfl mm0 ?_
        refine x_geti hP 43 dX6_weighs_40 rfl fl_RX6_92 (hG.O_166) (by decide) rfl ?_
        obtain ⟨hs1, hs2, h⟩ := h
        refine x_icmp hP 46 50 ((σ 166 10) ≤ (σ 167 54)) dX6_weighs_43 rfl rfl hs1 hs2 rfl (fun hbr => ?_) (fun hbr => ?_)
        · replace h := h.1 hbr
          refine x_iconst hP 51 dX6_weighs_50 rfl ?_
          refine x_istoren hP 52 3 [(0, vR (some 166)), (1, vI a), (2, vI v1), (3, vI 0)] dX6_weighs_51 rfl rfl (by decide) rfl rfl ?_
          refine x_iloadn hP 53 3 dX6_weighs_52 rfl rfl mm3 ?_
          refine x_ifc hP 56 106 ((0 : Int) = 0) dX6_weighs_53 rfl rfl (by decide) rfl (fun _ => ?_) (fun hbr => absurd hbr (by decide))
          exact x_vret hP dX6_weighs_106 ⟨Nat.le_refl _, Nat.le_refl _⟩ h
        · replace h := h.2 hbr
          refine x_iconst hP 47 dX6_weighs_46 rfl ?_
          refine x_goto hP 51 dX6_weighs_47 rfl ?_
          refine x_istoren hP 52 3 [(0, vR (some 166)), (1, vI a), (2, vI v1), (3, vI 1)] dX6_weighs_51 rfl rfl (by decide) rfl rfl ?_
          refine x_iloadn hP 53 3 dX6_weighs_52 rfl rfl mm3 ?_
          refine x_ifc hP 56 106 ((1 : Int) = 0) dX6_weighs_53 rfl rfl (by decide) rfl (fun hbr => absurd hbr (by decide)) (fun _ => ?_)
          refine x_aloadn hP 57 0 dX6_weighs_56 rfl rfl mm0 ?_
          refine x_iloadn hP 58 1 dX6_weighs_57 rfl rfl mm1 ?_
          refine x_putf hP 61 dX6_weighs_58 rfl fl_RX6_86 (hG.O_166) (by decide) rfl rfl (fun hz => absurd hz (by decide)) ?_
          refine x_aloadn hP 62 0 dX6_weighs_61 rfl rfl mm0 ?_
          refine x_iloadn hP 63 2 dX6_weighs_62 rfl rfl mm2 ?_
          refine x_putf hP 66 dX6_weighs_63 rfl fl_RX6_89 (hG.O_166) (by decide) rfl rfl (fun hz => absurd hz (by decide)) ?_
          refine x_aloadn hP 67 0 dX6_weighs_66 rfl rfl mm0 ?_
          refine x_aloadn hP 68 0 dX6_weighs_67 rfl rfl mm0 ?_
          refine x_getr hP 71 167 dX6_weighs_68 rfl fl_RX6_7 (hG.O_166) (by decide) rfl (hG.R_166_0) ?_
          refine x_bipush hP 73 dX6_weighs_71 rfl (by decide) ?_
          refine x_iald hP 74 dX6_weighs_73 rfl (hG.A_167) (by decide) (by decide) ?_
          refine x_putf hP 77 dX6_weighs_74 rfl fl_RX6_92 (hG.O_166) (by decide) rfl rfl (fun hz => absurd hz (by decide)) ?_
          refine x_iconst hP 78 dX6_weighs_77 rfl ?_
          refine x_istore hP 80 [(0, vR (some 166)), (1, vI a), (2, vI v1), (3, vI 1), (4, vI 0)] dX6_weighs_78 rfl (by decide) rfl rfl ?_
          exact x_sub hP [0, 1, 4] rfl h
theorem k_X6_weighs_80 {d : Nat} {Q : pQ} {P : pP} {g : pG} {σ : pM} (hP : Clo (pCall d) yX6_weighs cX6_weighs none 5 0 0 Q P) (x1 : Int) (x4 : Int) (hG : gAll g) (h : iR x4 ∧ iR x1 ∧ (x1 ≤ x4 → Q [] g σ) ∧ (¬ (x1 ≤ x4) → (0 ≤ x4 ∧ x4 < 10) ∧ (0 ≤ x4 ∧ x4 < 9) ∧ P 80 [(0, vR (some 166)), (1, vI x1), (4, vI (x4 + 1))] [] g (up2 σ 172 (Int.toNat x4) (σ 173 (Int.toNat x4))) 0 0)) : P 80 [(0, vR (some 166)), (1, vI x1), (4, vI x4)] [] g σ 0 0 := by
  refine x_iload hP 82 dX6_weighs_80 rfl mm2 ?_
  refine x_iloadn hP 83 1 dX6_weighs_82 rfl rfl mm1 ?_
  obtain ⟨hs1, hs2, h⟩ := h
  refine x_icmp hP 86 106 (x1 ≤ x4) dX6_weighs_83 rfl rfl hs1 hs2 rfl (fun hbr => ?_) (fun hbr => ?_)
  · replace h := h.1 hbr
    exact x_vret hP dX6_weighs_106 ⟨Nat.le_refl _, Nat.le_refl _⟩ h
  · replace h := h.2 hbr
    refine x_aloadn hP 87 0 dX6_weighs_86 rfl rfl mm0 ?_
    refine x_getr hP 90 172 dX6_weighs_87 rfl fl_RX6_26 (hG.O_166) (by decide) rfl (hG.R_166_11) ?_
    refine x_iload hP 92 dX6_weighs_90 rfl mm2 ?_
    refine x_aloadn hP 93 0 dX6_weighs_92 rfl rfl mm0 ?_
    refine x_getr hP 96 173 dX6_weighs_93 rfl fl_RX6_29 (hG.O_166) (by decide) rfl (hG.R_166_12) ?_
    refine x_iload hP 98 dX6_weighs_96 rfl mm2 ?_
    obtain ⟨hs, h⟩ := h
    refine x_iald hP 99 dX6_weighs_98 rfl (hG.A_173) (by decide) hs ?_
    obtain ⟨hs1, h⟩ := h
    refine x_iast hP 100 dX6_weighs_99 rfl (hG.A_172) (by decide) hs1 ?_
    refine x_iinc hP 103 [(0, vR (some 166)), (1, vI x1), (4, vI (x4 + 1))] dX6_weighs_100 rfl mm2 (by decide) rfl rfl ?_
    refine x_goto hP 80 dX6_weighs_103 rfl ?_
    exact h
theorem k_X6_seeks_0 {d : Nat} {Q : pQ} {P : pP} {g : pG} {σ : pM} (hP : Clo (pCall d) yX6_seeks cX6_seeks none 5 0 0 Q P) (hG : gAll g) (h : P 35 [(0, vR (some 166)), (1, vI (((up2 (up2 (up2 σ 166 8 ((-1))) 166 9 ((-1))) 166 10 ((-1))) 167 52) * ((up2 (up2 (up2 σ 166 8 ((-1))) 166 9 ((-1))) 166 10 ((-1))) 167 53))), (2, vI 0), (3, vI 0)] [] g (up2 (up2 (up2 σ 166 8 ((-1))) 166 9 ((-1))) 166 10 ((-1))) 0 0) : P 0 [(0, vR (some 166))] [] g σ 0 0 := by
  refine x_aloadn hP 1 0 dX6_seeks_0 rfl rfl mm0 ?_
  refine x_iconst hP 2 dX6_seeks_1 rfl ?_
  refine x_putf hP 5 dX6_seeks_2 rfl fl_RX6_86 (hG.O_166) (by decide) rfl rfl (fun hz => absurd hz (by decide)) ?_
  refine x_aloadn hP 6 0 dX6_seeks_5 rfl rfl mm0 ?_
  refine x_iconst hP 7 dX6_seeks_6 rfl ?_
  refine x_putf hP 10 dX6_seeks_7 rfl fl_RX6_89 (hG.O_166) (by decide) rfl rfl (fun hz => absurd hz (by decide)) ?_
  refine x_aloadn hP 11 0 dX6_seeks_10 rfl rfl mm0 ?_
  refine x_iconst hP 12 dX6_seeks_11 rfl ?_
  refine x_putf hP 15 dX6_seeks_12 rfl fl_RX6_92 (hG.O_166) (by decide) rfl rfl (fun hz => absurd hz (by decide)) ?_
  refine x_aloadn hP 16 0 dX6_seeks_15 rfl rfl mm0 ?_
  refine x_getr hP 19 167 dX6_seeks_16 rfl fl_RX6_7 (hG.O_166) (by decide) rfl (hG.R_166_0) ?_
  refine x_bipush hP 21 dX6_seeks_19 rfl (by decide) ?_
  refine x_iald hP 22 dX6_seeks_21 rfl (hG.A_167) (by decide) (by decide) ?_
  refine x_aloadn hP 23 0 dX6_seeks_22 rfl rfl mm0 ?_
  refine x_getr hP 26 167 dX6_seeks_23 rfl fl_RX6_7 (hG.O_166) (by decide) rfl (hG.R_166_0) ?_
  refine x_bipush hP 28 dX6_seeks_26 rfl (by decide) ?_
  refine x_iald hP 29 dX6_seeks_28 rfl (hG.A_167) (by decide) (by decide) ?_
  refine x_imul hP 30 dX6_seeks_29 rfl ?_
  refine x_istoren hP 31 1 [(0, vR (some 166)), (1, vI (((up2 (up2 (up2 σ 166 8 ((-1))) 166 9 ((-1))) 166 10 ((-1))) 167 52) * ((up2 (up2 (up2 σ 166 8 ((-1))) 166 9 ((-1))) 166 10 ((-1))) 167 53)))] dX6_seeks_30 rfl rfl (by decide) rfl rfl ?_
  refine x_iconst hP 32 dX6_seeks_31 rfl ?_
  refine x_istoren hP 33 2 [(0, vR (some 166)), (1, vI (((up2 (up2 (up2 σ 166 8 ((-1))) 166 9 ((-1))) 166 10 ((-1))) 167 52) * ((up2 (up2 (up2 σ 166 8 ((-1))) 166 9 ((-1))) 166 10 ((-1))) 167 53))), (2, vI 0)] dX6_seeks_32 rfl rfl (by decide) rfl rfl ?_
  refine x_iconst hP 34 dX6_seeks_33 rfl ?_
  refine x_istoren hP 35 3 [(0, vR (some 166)), (1, vI (((up2 (up2 (up2 σ 166 8 ((-1))) 166 9 ((-1))) 166 10 ((-1))) 167 52) * ((up2 (up2 (up2 σ 166 8 ((-1))) 166 9 ((-1))) 166 10 ((-1))) 167 53))), (2, vI 0), (3, vI 0)] dX6_seeks_34 rfl rfl (by decide) rfl rfl ?_
  exact h
theorem k_X6_seeks_35 {d : Nat} {Q : pQ} {P : pP} {g : pG} {σ : pM} (hP : Clo (pCall d) yX6_seeks cX6_seeks none 5 0 0 Q P) (x1 : Int) (x2 : Int) (x3 : Int) (hG : gAll g) (h : iR x3 ∧ iR x1 ∧ (x1 ≤ x3 → P 73 [(0, vR (some 166)), (1, vI x1), (2, vI x2), (3, vI 0)] [] g (up2 σ 173 0 ((-1))) 0 0) ∧ (¬ (x1 ≤ x3) → ∃ (v1 : Int), Ca d yX6_isPoured [vR (some 166), vI 52, vI x3] g σ [vI v1] g σ ∧ iR v1 ∧ (v1 = 0 → P 35 [(0, vR (some 166)), (1, vI x1), (2, vI (x2 + 1)), (3, vI (x3 + 1))] [] g σ 0 0) ∧ (¬ (v1 = 0) → P 35 [(0, vR (some 166)), (1, vI x1), (2, vI (x2 + 0)), (3, vI (x3 + 1))] [] g σ 0 0))) : P 35 [(0, vR (some 166)), (1, vI x1), (2, vI x2), (3, vI x3)] [] g σ 0 0 := by
  refine x_iloadn hP 36 3 dX6_seeks_35 rfl rfl mm3 ?_
  refine x_iloadn hP 37 1 dX6_seeks_36 rfl rfl mm1 ?_
  obtain ⟨hs1, hs2, h⟩ := h
  refine x_icmp hP 40 64 (x1 ≤ x3) dX6_seeks_37 rfl rfl hs1 hs2 rfl (fun hbr => ?_) (fun hbr => ?_)
  · replace h := h.1 hbr
    refine x_iconst hP 65 dX6_seeks_64 rfl ?_
    refine x_istoren hP 66 3 [(0, vR (some 166)), (1, vI x1), (2, vI x2), (3, vI 0)] dX6_seeks_65 rfl rfl (by decide) rfl rfl ?_
    refine x_aloadn hP 67 0 dX6_seeks_66 rfl rfl mm0 ?_
    refine x_getr hP 70 173 dX6_seeks_67 rfl fl_RX6_29 (hG.O_166) (by decide) rfl (hG.R_166_12) ?_
    refine x_iconst hP 71 dX6_seeks_70 rfl ?_
    refine x_iconst hP 72 dX6_seeks_71 rfl ?_
    refine x_iast hP 73 dX6_seeks_72 rfl (hG.A_173) (by decide) (by decide) ?_
    exact h
  · replace h := h.2 hbr
    refine x_iloadn hP 41 2 dX6_seeks_40 rfl rfl mm2 ?_
    refine x_aloadn hP 42 0 dX6_seeks_41 rfl rfl mm0 ?_
    refine x_bipush hP 44 dX6_seeks_42 rfl (by decide) ?_
    refine x_iloadn hP 45 3 dX6_seeks_44 rfl rfl mm3 ?_
    obtain ⟨v1, hc, h⟩ := h
    refine x_cv hP 48 [vI 52, vI x3] [vI x2] dX6_seeks_45 rfl (hG.O_166) (by decide) rfl ml_RX6_54 im_X6_isPoured se_X6_isPoured it_RX6 pp_X6_isPoured bd_X6_isPoured rfl rfl ⟨Nat.le_refl _, Nat.le_refl _⟩ (by simp [pC]) hc ?_
    obtain ⟨hs1, h⟩ := h
    refine x_ifc hP 51 55 (v1 = 0) dX6_seeks_48 rfl rfl hs1 rfl (fun hbr => ?_) (fun hbr => ?_)
    · replace h := h.1 hbr
      refine x_iconst hP 56 dX6_seeks_55 rfl ?_
      refine x_iadd hP 57 dX6_seeks_56 rfl ?_
      refine x_istoren hP 58 2 [(0, vR (some 166)), (1, vI x1), (2, vI (x2 + 1)), (3, vI x3)] dX6_seeks_57 rfl rfl (by decide) rfl rfl ?_
      refine x_iinc hP 61 [(0, vR (some 166)), (1, vI x1), (2, vI (x2 + 1)), (3, vI (x3 + 1))] dX6_seeks_58 rfl mm3 (by decide) rfl rfl ?_
      refine x_goto hP 35 dX6_seeks_61 rfl ?_
      exact h
    · replace h := h.2 hbr
      refine x_iconst hP 52 dX6_seeks_51 rfl ?_
      refine x_goto hP 56 dX6_seeks_52 rfl ?_
      refine x_iadd hP 57 dX6_seeks_56 rfl ?_
      refine x_istoren hP 58 2 [(0, vR (some 166)), (1, vI x1), (2, vI (x2 + 0)), (3, vI x3)] dX6_seeks_57 rfl rfl (by decide) rfl rfl ?_
      refine x_iinc hP 61 [(0, vR (some 166)), (1, vI x1), (2, vI (x2 + 0)), (3, vI (x3 + 1))] dX6_seeks_58 rfl mm3 (by decide) rfl rfl ?_
      refine x_goto hP 35 dX6_seeks_61 rfl ?_
      exact h
theorem k_X6_seeks_73 {d : Nat} {Q : pQ} {P : pP} {g : pG} {σ : pM} (hP : Clo (pCall d) yX6_seeks cX6_seeks none 5 0 0 Q P) (x1 : Int) (x2 : Int) (x3 : Int) (hG : gAll g) (h : iR x3 ∧ (x3 < 0 → Q [] g σ) ∧ (¬ (x3 < 0) → iR x3 ∧ iR x2 ∧ (¬ x3 = x2 → (0 ≤ x3 ∧ x3 < 10) ∧ iR (σ 173 (Int.toNat x3)) ∧ ((σ 173 (Int.toNat x3)) = ((-1)) → (0 ≤ x3 ∧ x3 < 10) ∧ (0 ≤ x3 ∧ x3 < 10) ∧ P 169 [(0, vR (some 166)), (1, vI x1), (2, vI x2), (3, vI x3), (4, vI (((up2 σ 174 (Int.toNat x3) (σ 167 54)) 173 (Int.toNat x3)) + 1))] [] g (up2 σ 174 (Int.toNat x3) (σ 167 54)) 0 0) ∧ (¬ ((σ 173 (Int.toNat x3)) = ((-1))) → (0 ≤ x3 ∧ x3 < 10) ∧ (0 ≤ (86 + (σ 173 (Int.toNat x3))) ∧ (86 + (σ 173 (Int.toNat x3))) < 1300) ∧ (0 ≤ x3 ∧ x3 < 10) ∧ (0 ≤ (95 + ((up2 σ 167 (Int.toNat (86 + (σ 173 (Int.toNat x3)))) ((-1))) 173 (Int.toNat x3))) ∧ (95 + ((up2 σ 167 (Int.toNat (86 + (σ 173 (Int.toNat x3)))) ((-1))) 173 (Int.toNat x3))) < 1300) ∧ (0 ≤ x3 ∧ x3 < 10) ∧ (0 ≤ x3 ∧ x3 < 10) ∧ (0 ≤ x3 ∧ x3 < 10) ∧ P 169 [(0, vR (some 166)), (1, vI x1), (2, vI x2), (3, vI x3), (4, vI (((up2 (up2 (up2 (up2 σ 167 (Int.toNat (86 + (σ 173 (Int.toNat x3)))) ((-1))) 167 (Int.toNat (95 + ((up2 σ 167 (Int.toNat (86 + (σ 173 (Int.toNat x3)))) ((-1))) 173 (Int.toNat x3)))) ((-1))) 167 54 ((up2 (up2 σ 167 (Int.toNat (86 + (σ 173 (Int.toNat x3)))) ((-1))) 167 (Int.toNat (95 + ((up2 σ 167 (Int.toNat (86 + (σ 173 (Int.toNat x3)))) ((-1))) 173 (Int.toNat x3)))) ((-1))) 174 (Int.toNat x3))) 174 (Int.toNat x3) ((up2 (up2 (up2 σ 167 (Int.toNat (86 + (σ 173 (Int.toNat x3)))) ((-1))) 167 (Int.toNat (95 + ((up2 σ 167 (Int.toNat (86 + (σ 173 (Int.toNat x3)))) ((-1))) 173 (Int.toNat x3)))) ((-1))) 167 54 ((up2 (up2 σ 167 (Int.toNat (86 + (σ 173 (Int.toNat x3)))) ((-1))) 167 (Int.toNat (95 + ((up2 σ 167 (Int.toNat (86 + (σ 173 (Int.toNat x3)))) ((-1))) 173 (Int.toNat x3)))) ((-1))) 174 (Int.toNat x3))) 167 54)) 173 (Int.toNat x3)) + 1))] [] g (up2 (up2 (up2 (up2 σ 167 (Int.toNat (86 + (σ 173 (Int.toNat x3)))) ((-1))) 167 (Int.toNat (95 + ((up2 σ 167 (Int.toNat (86 + (σ 173 (Int.toNat x3)))) ((-1))) 173 (Int.toNat x3)))) ((-1))) 167 54 ((up2 (up2 σ 167 (Int.toNat (86 + (σ 173 (Int.toNat x3)))) ((-1))) 167 (Int.toNat (95 + ((up2 σ 167 (Int.toNat (86 + (σ 173 (Int.toNat x3)))) ((-1))) 173 (Int.toNat x3)))) ((-1))) 174 (Int.toNat x3))) 174 (Int.toNat x3) ((up2 (up2 (up2 σ 167 (Int.toNat (86 + (σ 173 (Int.toNat x3)))) ((-1))) 167 (Int.toNat (95 + ((up2 σ 167 (Int.toNat (86 + (σ 173 (Int.toNat x3)))) ((-1))) 173 (Int.toNat x3)))) ((-1))) 167 54 ((up2 (up2 σ 167 (Int.toNat (86 + (σ 173 (Int.toNat x3)))) ((-1))) 167 (Int.toNat (95 + ((up2 σ 167 (Int.toNat (86 + (σ 173 (Int.toNat x3)))) ((-1))) 173 (Int.toNat x3)))) ((-1))) 174 (Int.toNat x3))) 167 54)) 0 0)) ∧ (¬ (¬ x3 = x2) → ∃ (s1 : pM), Ca d yX6_weighs [vR (some 166), vI x3] g σ [] g s1 ∧ P 73 [(0, vR (some 166)), (1, vI x1), (2, vI x2), (3, vI (x3 + (-1)))] [] g s1 0 0))) : P 73 [(0, vR (some 166)), (1, vI x1), (2, vI x2), (3, vI x3)] [] g σ 0 0 := by
  refine x_iloadn hP 74 3 dX6_seeks_73 rfl rfl mm3 ?_
  obtain ⟨hs1, h⟩ := h
  refine x_ifc hP 77 225 (x3 < 0) dX6_seeks_74 rfl rfl hs1 rfl (fun hbr => ?_) (fun hbr => ?_)
  · replace h := h.1 hbr
    exact x_vret hP dX6_seeks_225 ⟨Nat.le_refl _, Nat.le_refl _⟩ h
  · replace h := h.2 hbr
    refine x_iloadn hP 78 3 dX6_seeks_77 rfl rfl mm3 ?_
    refine x_iloadn hP 79 2 dX6_seeks_78 rfl rfl mm2 ?_
    obtain ⟨hs1, hs2, h⟩ := h
    refine x_icmp hP 82 93 (¬ x3 = x2) dX6_seeks_79 rfl rfl hs1 hs2 rfl (fun hbr => ?_) (fun hbr => ?_)
    · replace h := h.1 hbr
      refine x_aloadn hP 94 0 dX6_seeks_93 rfl rfl mm0 ?_
      refine x_getr hP 97 173 dX6_seeks_94 rfl fl_RX6_29 (hG.O_166) (by decide) rfl (hG.R_166_12) ?_
      refine x_iloadn hP 98 3 dX6_seeks_97 rfl rfl mm3 ?_
      obtain ⟨hs, h⟩ := h
      refine x_iald hP 99 dX6_seeks_98 rfl (hG.A_173) (by decide) hs ?_
      refine x_iconst hP 100 dX6_seeks_99 rfl ?_
      obtain ⟨hs1, h⟩ := h
      refine x_icmp hP 103 146 ((σ 173 (Int.toNat x3)) = ((-1))) dX6_seeks_100 rfl rfl hs1 (by decide) rfl (fun hbr => ?_) (fun hbr => ?_)
      · replace h := h.1 hbr
        refine x_aloadn hP 147 0 dX6_seeks_146 rfl rfl mm0 ?_
        refine x_getr hP 150 174 dX6_seeks_147 rfl fl_RX6_32 (hG.O_166) (by decide) rfl (hG.R_166_13) ?_
        refine x_iloadn hP 151 3 dX6_seeks_150 rfl rfl mm3 ?_
        refine x_aloadn hP 152 0 dX6_seeks_151 rfl rfl mm0 ?_
        refine x_getr hP 155 167 dX6_seeks_152 rfl fl_RX6_7 (hG.O_166) (by decide) rfl (hG.R_166_0) ?_
        refine x_bipush hP 157 dX6_seeks_155 rfl (by decide) ?_
        refine x_iald hP 158 dX6_seeks_157 rfl (hG.A_167) (by decide) (by decide) ?_
        obtain ⟨hs1, h⟩ := h
        refine x_iast hP 159 dX6_seeks_158 rfl (hG.A_174) (by decide) hs1 ?_
        refine x_aloadn hP 160 0 dX6_seeks_159 rfl rfl mm0 ?_
        refine x_getr hP 163 173 dX6_seeks_160 rfl fl_RX6_29 (hG.O_166) (by decide) rfl (hG.R_166_12) ?_
        refine x_iloadn hP 164 3 dX6_seeks_163 rfl rfl mm3 ?_
        obtain ⟨hs, h⟩ := h
        refine x_iald hP 165 dX6_seeks_164 rfl (hG.A_173) (by decide) hs ?_
        refine x_iconst hP 166 dX6_seeks_165 rfl ?_
        refine x_iadd hP 167 dX6_seeks_166 rfl ?_
        refine x_istore hP 169 [(0, vR (some 166)), (1, vI x1), (2, vI x2), (3, vI x3), (4, vI (((up2 σ 174 (Int.toNat x3) (σ 167 54)) 173 (Int.toNat x3)) + 1))] dX6_seeks_167 rfl (by decide) rfl rfl ?_
        exact h
      · replace h := h.2 hbr
        refine x_aloadn hP 104 0 dX6_seeks_103 rfl rfl mm0 ?_
        refine x_getr hP 107 167 dX6_seeks_104 rfl fl_RX6_7 (hG.O_166) (by decide) rfl (hG.R_166_0) ?_
        refine x_bipush hP 109 dX6_seeks_107 rfl (by decide) ?_
        refine x_aloadn hP 110 0 dX6_seeks_109 rfl rfl mm0 ?_
        refine x_getr hP 113 173 dX6_seeks_110 rfl fl_RX6_29 (hG.O_166) (by decide) rfl (hG.R_166_12) ?_
        refine x_iloadn hP 114 3 dX6_seeks_113 rfl rfl mm3 ?_
        obtain ⟨hs, h⟩ := h
        refine x_iald hP 115 dX6_seeks_114 rfl (hG.A_173) (by decide) hs ?_
        refine x_iadd hP 116 dX6_seeks_115 rfl ?_
        refine x_iconst hP 117 dX6_seeks_116 rfl ?_
        obtain ⟨hs1, h⟩ := h
        refine x_iast hP 118 dX6_seeks_117 rfl (hG.A_167) (by decide) hs1 ?_
        refine x_aloadn hP 119 0 dX6_seeks_118 rfl rfl mm0 ?_
        refine x_getr hP 122 167 dX6_seeks_119 rfl fl_RX6_7 (hG.O_166) (by decide) rfl (hG.R_166_0) ?_
        refine x_bipush hP 124 dX6_seeks_122 rfl (by decide) ?_
        refine x_aloadn hP 125 0 dX6_seeks_124 rfl rfl mm0 ?_
        refine x_getr hP 128 173 dX6_seeks_125 rfl fl_RX6_29 (hG.O_166) (by decide) rfl (hG.R_166_12) ?_
        refine x_iloadn hP 129 3 dX6_seeks_128 rfl rfl mm3 ?_
        obtain ⟨hs, h⟩ := h
        refine x_iald hP 130 dX6_seeks_129 rfl (hG.A_173) (by decide) hs ?_
        refine x_iadd hP 131 dX6_seeks_130 rfl ?_
        refine x_iconst hP 132 dX6_seeks_131 rfl ?_
        obtain ⟨hs1, h⟩ := h
        refine x_iast hP 133 dX6_seeks_132 rfl (hG.A_167) (by decide) hs1 ?_
        refine x_aloadn hP 134 0 dX6_seeks_133 rfl rfl mm0 ?_
        refine x_getr hP 137 167 dX6_seeks_134 rfl fl_RX6_7 (hG.O_166) (by decide) rfl (hG.R_166_0) ?_
        refine x_bipush hP 139 dX6_seeks_137 rfl (by decide) ?_
        refine x_aloadn hP 140 0 dX6_seeks_139 rfl rfl mm0 ?_
        refine x_getr hP 143 174 dX6_seeks_140 rfl fl_RX6_32 (hG.O_166) (by decide) rfl (hG.R_166_13) ?_
        refine x_iloadn hP 144 3 dX6_seeks_143 rfl rfl mm3 ?_
        obtain ⟨hs, h⟩ := h
        refine x_iald hP 145 dX6_seeks_144 rfl (hG.A_174) (by decide) hs ?_
        refine x_iast hP 146 dX6_seeks_145 rfl (hG.A_167) (by decide) (by decide) ?_
        refine x_aloadn hP 147 0 dX6_seeks_146 rfl rfl mm0 ?_
        refine x_getr hP 150 174 dX6_seeks_147 rfl fl_RX6_32 (hG.O_166) (by decide) rfl (hG.R_166_13) ?_
        refine x_iloadn hP 151 3 dX6_seeks_150 rfl rfl mm3 ?_
        refine x_aloadn hP 152 0 dX6_seeks_151 rfl rfl mm0 ?_
        refine x_getr hP 155 167 dX6_seeks_152 rfl fl_RX6_7 (hG.O_166) (by decide) rfl (hG.R_166_0) ?_
        refine x_bipush hP 157 dX6_seeks_155 rfl (by decide) ?_
        refine x_iald hP 158 dX6_seeks_157 rfl (hG.A_167) (by decide) (by decide) ?_
        obtain ⟨hs1, h⟩ := h
        refine x_iast hP 159 dX6_seeks_158 rfl (hG.A_174) (by decide) hs1 ?_
        refine x_aloadn hP 160 0 dX6_seeks_159 rfl rfl mm0 ?_
        refine x_getr hP 163 173 dX6_seeks_160 rfl fl_RX6_29 (hG.O_166) (by decide) rfl (hG.R_166_12) ?_
        refine x_iloadn hP 164 3 dX6_seeks_163 rfl rfl mm3 ?_
        obtain ⟨hs, h⟩ := h
        refine x_iald hP 165 dX6_seeks_164 rfl (hG.A_173) (by decide) hs ?_
        refine x_iconst hP 166 dX6_seeks_165 rfl ?_
        refine x_iadd hP 167 dX6_seeks_166 rfl ?_
        refine x_istore hP 169 [(0, vR (some 166)), (1, vI x1), (2, vI x2), (3, vI x3), (4, vI (((up2 (up2 (up2 (up2 σ 167 (Int.toNat (86 + (σ 173 (Int.toNat x3)))) ((-1))) 167 (Int.toNat (95 + ((up2 σ 167 (Int.toNat (86 + (σ 173 (Int.toNat x3)))) ((-1))) 173 (Int.toNat x3)))) ((-1))) 167 54 ((up2 (up2 σ 167 (Int.toNat (86 + (σ 173 (Int.toNat x3)))) ((-1))) 167 (Int.toNat (95 + ((up2 σ 167 (Int.toNat (86 + (σ 173 (Int.toNat x3)))) ((-1))) 173 (Int.toNat x3)))) ((-1))) 174 (Int.toNat x3))) 174 (Int.toNat x3) ((up2 (up2 (up2 σ 167 (Int.toNat (86 + (σ 173 (Int.toNat x3)))) ((-1))) 167 (Int.toNat (95 + ((up2 σ 167 (Int.toNat (86 + (σ 173 (Int.toNat x3)))) ((-1))) 173 (Int.toNat x3)))) ((-1))) 167 54 ((up2 (up2 σ 167 (Int.toNat (86 + (σ 173 (Int.toNat x3)))) ((-1))) 167 (Int.toNat (95 + ((up2 σ 167 (Int.toNat (86 + (σ 173 (Int.toNat x3)))) ((-1))) 173 (Int.toNat x3)))) ((-1))) 174 (Int.toNat x3))) 167 54)) 173 (Int.toNat x3)) + 1))] dX6_seeks_167 rfl (by decide) rfl rfl ?_
        exact h
    · replace h := h.2 hbr
      refine x_aloadn hP 83 0 dX6_seeks_82 rfl rfl mm0 ?_
      refine x_iloadn hP 84 3 dX6_seeks_83 rfl rfl mm3 ?_
      obtain ⟨s1, hc, h⟩ := h
      refine x_cv hP 87 [vI x3] [] dX6_seeks_84 rfl (hG.O_166) (by decide) rfl ml_RX6_95 im_X6_weighs se_X6_weighs it_RX6 pp_X6_weighs bd_X6_weighs rfl rfl ⟨Nat.le_refl _, Nat.le_refl _⟩ (by simp [pC]) hc ?_
      refine x_iinc hP 90 [(0, vR (some 166)), (1, vI x1), (2, vI x2), (3, vI (x3 + (-1)))] dX6_seeks_87 rfl mm3 (by decide) rfl rfl ?_
      refine x_goto hP 73 dX6_seeks_90 rfl ?_
      exact h
theorem k_X6_finds_0 {d : Nat} {Q : pQ} {P : pP} {g : pG} {σ : pM} (hP : Clo (pCall d) yX6_finds cX6_finds none 1 0 0 Q P) (hG : gAll g) (h : ∃ (s1 : pM), Ca d yX6_copy [vR (some 166), vI 0, vI 52] g σ [] g s1 ∧ ∃ (s2 : pM), Ca d yX6_seeks [vR (some 166)] g s1 [] g s2 ∧ Q [] g s2) : P 0 [(0, vR (some 166))] [] g σ 0 0 := by
  refine x_aloadn hP 1 0 dX6_finds_0 rfl rfl mm0 ?_
  refine x_iconst hP 2 dX6_finds_1 rfl ?_
  refine x_bipush hP 4 dX6_finds_2 rfl (by decide) ?_
  obtain ⟨s1, hc, h⟩ := h
  refine x_cv hP 7 [vI 0, vI 52] [] dX6_finds_4 rfl (hG.O_166) (by decide) rfl ml_RX6_43 im_X6_copy se_X6_copy it_RX6 pp_X6_copy bd_X6_copy rfl rfl ⟨Nat.le_refl _, Nat.le_refl _⟩ (by simp [pC]) hc ?_
  refine x_aloadn hP 8 0 dX6_finds_7 rfl rfl mm0 ?_
  obtain ⟨s2, hc, h⟩ := h
  refine x_cv hP 11 [] [] dX6_finds_8 rfl (hG.O_166) (by decide) rfl ml_RX6_102 im_X6_seeks se_X6_seeks it_RX6 pp_X6_seeks bd_X6_seeks rfl rfl ⟨Nat.le_refl _, Nat.le_refl _⟩ (by simp [pC]) hc ?_
  exact x_vret hP dX6_finds_11 ⟨Nat.le_refl _, Nat.le_refl _⟩ h
theorem k_X6_mayWait_0 {d : Nat} {Q : pQ} {P : pP} {g : pG} {σ : pM} (hP : Clo (pCall d) yX6_mayWait cX6_mayWait (some .int) 4 0 0 Q P) (hG : gAll g) (h : ∃ (s1 : pM), Ca d yX6_finds [vR (some 166)] g σ [] g s1 ∧ iR (s1 166 8) ∧ (¬ (s1 166 8) = ((-1)) → P 23 [(0, vR (some 166)), (1, vI (s1 166 9)), (2, vI 0), (3, vI 1)] [] g s1 0 0) ∧ (¬ (¬ (s1 166 8) = ((-1))) → Q [vI ((-1))] g s1)) : P 0 [(0, vR (some 166))] [] g σ 0 0 := by
  refine x_aloadn hP 1 0 dX6_mayWait_0 rfl rfl mm0 ?_
  obtain ⟨s1, hc, h⟩ := h
  refine x_cv hP 4 [] [] dX6_mayWait_1 rfl (hG.O_166) (by decide) rfl ml_RX6_105 im_X6_finds se_X6_finds it_RX6 pp_X6_finds bd_X6_finds rfl rfl ⟨Nat.le_refl _, Nat.le_refl _⟩ (by simp [pC]) hc ?_
  refine x_aloadn hP 5 0 dX6_mayWait_4 rfl rfl mm0 ?_
  refine x_geti hP 8 dX6_mayWait_5 rfl fl_RX6_86 (hG.O_166) (by decide) rfl ?_
  refine x_iconst hP 9 dX6_mayWait_8 rfl ?_
  obtain ⟨hs1, h⟩ := h
  refine x_icmp hP 12 14 (¬ (s1 166 8) = ((-1))) dX6_mayWait_9 rfl rfl hs1 (by decide) rfl (fun hbr => ?_) (fun hbr => ?_)
  · replace h := h.1 hbr
    refine x_aloadn hP 15 0 dX6_mayWait_14 rfl rfl mm0 ?_
    refine x_geti hP 18 dX6_mayWait_15 rfl fl_RX6_89 (hG.O_166) (by decide) rfl ?_
    refine x_istoren hP 19 1 [(0, vR (some 166)), (1, vI (s1 166 9))] dX6_mayWait_18 rfl rfl (by decide) rfl rfl ?_
    refine x_iconst hP 20 dX6_mayWait_19 rfl ?_
    refine x_istoren hP 21 2 [(0, vR (some 166)), (1, vI (s1 166 9)), (2, vI 0)] dX6_mayWait_20 rfl rfl (by decide) rfl rfl ?_
    refine x_iconst hP 22 dX6_mayWait_21 rfl ?_
    refine x_istoren hP 23 3 [(0, vR (some 166)), (1, vI (s1 166 9)), (2, vI 0), (3, vI 1)] dX6_mayWait_22 rfl rfl (by decide) rfl rfl ?_
    exact h
  · replace h := h.2 hbr
    refine x_iconst hP 13 dX6_mayWait_12 rfl ?_
    exact x_iret hP dX6_mayWait_13 ⟨Nat.le_refl _, Nat.le_refl _⟩ h
theorem k_X6_mayWait_23 {d : Nat} {Q : pQ} {P : pP} {g : pG} {σ : pM} (hP : Clo (pCall d) yX6_mayWait cX6_mayWait (some .int) 4 0 0 Q P) (x1 : Int) (x2 : Int) (x3 : Int) (hG : gAll g) (h : iR x3 ∧ (12 < x3 → Q [vI x2] g σ) ∧ (¬ (12 < x3) → ∃ (s1 : pM), Ca d yX6_copy [vR (some 166), vI 0, vI 52] g σ [] g s1 ∧ ∃ (s2 : pM), Ca d yX6_seeks [vR (some 166)] g (up2 s1 167 54 ((s1 167 54) + x3)) [] g s2 ∧ iR (s2 166 8) ∧ ((s2 166 8) = ((-1)) → P 23 [(0, vR (some 166)), (1, vI x1), (2, vI x2), (3, vI (x3 + 1))] [] g s2 0 0) ∧ (¬ ((s2 166 8) = ((-1))) → iR (s2 166 9) ∧ iR x1 ∧ (¬ (s2 166 9) = x1 → P 23 [(0, vR (some 166)), (1, vI x1), (2, vI x2), (3, vI (x3 + 1))] [] g s2 0 0) ∧ (¬ (¬ (s2 166 9) = x1) → P 23 [(0, vR (some 166)), (1, vI x1), (2, vI x3), (3, vI (x3 + 1))] [] g s2 0 0)))) : P 23 [(0, vR (some 166)), (1, vI x1), (2, vI x2), (3, vI x3)] [] g σ 0 0 := by
  refine x_iloadn hP 24 3 dX6_mayWait_23 rfl rfl mm3 ?_
  refine x_bipush hP 26 dX6_mayWait_24 rfl (by decide) ?_
  obtain ⟨hs1, h⟩ := h
  refine x_icmp hP 29 79 (12 < x3) dX6_mayWait_26 rfl rfl hs1 (by decide) rfl (fun hbr => ?_) (fun hbr => ?_)
  · replace h := h.1 hbr
    refine x_iloadn hP 80 2 dX6_mayWait_79 rfl rfl mm2 ?_
    exact x_iret hP dX6_mayWait_80 ⟨Nat.le_refl _, Nat.le_refl _⟩ h
  · replace h := h.2 hbr
    refine x_aloadn hP 30 0 dX6_mayWait_29 rfl rfl mm0 ?_
    refine x_iconst hP 31 dX6_mayWait_30 rfl ?_
    refine x_bipush hP 33 dX6_mayWait_31 rfl (by decide) ?_
    obtain ⟨s1, hc, h⟩ := h
    refine x_cv hP 36 [vI 0, vI 52] [] dX6_mayWait_33 rfl (hG.O_166) (by decide) rfl ml_RX6_43 im_X6_copy se_X6_copy it_RX6 pp_X6_copy bd_X6_copy rfl rfl ⟨Nat.le_refl _, Nat.le_refl _⟩ (by simp [pC]) hc ?_
    refine x_aloadn hP 37 0 dX6_mayWait_36 rfl rfl mm0 ?_
    refine x_getr hP 40 167 dX6_mayWait_37 rfl fl_RX6_7 (hG.O_166) (by decide) rfl (hG.R_166_0) ?_
    refine x_bipush hP 42 dX6_mayWait_40 rfl (by decide) ?_
    refine x_dup2 hP 43 dX6_mayWait_42 rfl rfl rfl ?_
    refine x_iald hP 44 dX6_mayWait_43 rfl (hG.A_167) (by decide) (by decide) ?_
    refine x_iloadn hP 45 3 dX6_mayWait_44 rfl rfl mm3 ?_
    refine x_iadd hP 46 dX6_mayWait_45 rfl ?_
    refine x_iast hP 47 dX6_mayWait_46 rfl (hG.A_167) (by decide) (by decide) ?_
    refine x_aloadn hP 48 0 dX6_mayWait_47 rfl rfl mm0 ?_
    obtain ⟨s2, hc, h⟩ := h
    refine x_cv hP 51 [] [] dX6_mayWait_48 rfl (hG.O_166) (by decide) rfl ml_RX6_102 im_X6_seeks se_X6_seeks it_RX6 pp_X6_seeks bd_X6_seeks rfl rfl ⟨Nat.le_refl _, Nat.le_refl _⟩ (by simp [pC]) hc ?_
    refine x_aloadn hP 52 0 dX6_mayWait_51 rfl rfl mm0 ?_
    refine x_geti hP 55 dX6_mayWait_52 rfl fl_RX6_86 (hG.O_166) (by decide) rfl ?_
    refine x_iconst hP 56 dX6_mayWait_55 rfl ?_
    obtain ⟨hs1, h⟩ := h
    refine x_icmp hP 59 71 ((s2 166 8) = ((-1))) dX6_mayWait_56 rfl rfl hs1 (by decide) rfl (fun hbr => ?_) (fun hbr => ?_)
    · replace h := h.1 hbr
      refine x_iloadn hP 72 2 dX6_mayWait_71 rfl rfl mm2 ?_
      refine x_istoren hP 73 2 [(0, vR (some 166)), (1, vI x1), (2, vI x2), (3, vI x3)] dX6_mayWait_72 rfl rfl (by decide) rfl rfl ?_
      refine x_iinc hP 76 [(0, vR (some 166)), (1, vI x1), (2, vI x2), (3, vI (x3 + 1))] dX6_mayWait_73 rfl mm3 (by decide) rfl rfl ?_
      refine x_goto hP 23 dX6_mayWait_76 rfl ?_
      exact h
    · replace h := h.2 hbr
      refine x_aloadn hP 60 0 dX6_mayWait_59 rfl rfl mm0 ?_
      refine x_geti hP 63 dX6_mayWait_60 rfl fl_RX6_89 (hG.O_166) (by decide) rfl ?_
      refine x_iloadn hP 64 1 dX6_mayWait_63 rfl rfl mm1 ?_
      obtain ⟨hs1, hs2, h⟩ := h
      refine x_icmp hP 67 71 (¬ (s2 166 9) = x1) dX6_mayWait_64 rfl rfl hs1 hs2 rfl (fun hbr => ?_) (fun hbr => ?_)
      · replace h := h.1 hbr
        refine x_iloadn hP 72 2 dX6_mayWait_71 rfl rfl mm2 ?_
        refine x_istoren hP 73 2 [(0, vR (some 166)), (1, vI x1), (2, vI x2), (3, vI x3)] dX6_mayWait_72 rfl rfl (by decide) rfl rfl ?_
        refine x_iinc hP 76 [(0, vR (some 166)), (1, vI x1), (2, vI x2), (3, vI (x3 + 1))] dX6_mayWait_73 rfl mm3 (by decide) rfl rfl ?_
        refine x_goto hP 23 dX6_mayWait_76 rfl ?_
        exact h
      · replace h := h.2 hbr
        refine x_iloadn hP 68 3 dX6_mayWait_67 rfl rfl mm3 ?_
        refine x_goto hP 72 dX6_mayWait_68 rfl ?_
        refine x_istoren hP 73 2 [(0, vR (some 166)), (1, vI x1), (2, vI x3), (3, vI x3)] dX6_mayWait_72 rfl rfl (by decide) rfl rfl ?_
        refine x_iinc hP 76 [(0, vR (some 166)), (1, vI x1), (2, vI x3), (3, vI (x3 + 1))] dX6_mayWait_73 rfl mm3 (by decide) rfl rfl ?_
        refine x_goto hP 23 dX6_mayWait_76 rfl ?_
        exact h
theorem k_X6_mayBeLate_0 {d : Nat} {Q : pQ} {P : pP} {g : pG} {σ : pM} (hP : Clo (pCall d) yX6_mayBeLate cX6_mayBeLate (some .int) 5 0 0 Q P) (a : Int) (hG : gAll g) (h : ∃ (s1 : pM), Ca d yX6_finds [vR (some 166)] g σ [] g s1 ∧ iR (s1 166 8) ∧ (¬ (s1 166 8) = ((-1)) → P 24 [(0, vR (some 166)), (1, vI a), (2, vI (s1 166 9)), (3, vI 0), (4, vI 1)] [] g s1 0 0) ∧ (¬ (¬ (s1 166 8) = ((-1))) → Q [vI ((-1))] g s1)) : P 0 [(0, vR (some 166)), (1, vI a)] [] g σ 0 0 := by
  refine x_aloadn hP 1 0 dX6_mayBeLate_0 rfl rfl mm0 ?_
  obtain ⟨s1, hc, h⟩ := h
  refine x_cv hP 4 [] [] dX6_mayBeLate_1 rfl (hG.O_166) (by decide) rfl ml_RX6_105 im_X6_finds se_X6_finds it_RX6 pp_X6_finds bd_X6_finds rfl rfl ⟨Nat.le_refl _, Nat.le_refl _⟩ (by simp [pC]) hc ?_
  refine x_aloadn hP 5 0 dX6_mayBeLate_4 rfl rfl mm0 ?_
  refine x_geti hP 8 dX6_mayBeLate_5 rfl fl_RX6_86 (hG.O_166) (by decide) rfl ?_
  refine x_iconst hP 9 dX6_mayBeLate_8 rfl ?_
  obtain ⟨hs1, h⟩ := h
  refine x_icmp hP 12 14 (¬ (s1 166 8) = ((-1))) dX6_mayBeLate_9 rfl rfl hs1 (by decide) rfl (fun hbr => ?_) (fun hbr => ?_)
  · replace h := h.1 hbr
    refine x_aloadn hP 15 0 dX6_mayBeLate_14 rfl rfl mm0 ?_
    refine x_geti hP 18 dX6_mayBeLate_15 rfl fl_RX6_89 (hG.O_166) (by decide) rfl ?_
    refine x_istoren hP 19 2 [(0, vR (some 166)), (1, vI a), (2, vI (s1 166 9))] dX6_mayBeLate_18 rfl rfl (by decide) rfl rfl ?_
    refine x_iconst hP 20 dX6_mayBeLate_19 rfl ?_
    refine x_istoren hP 21 3 [(0, vR (some 166)), (1, vI a), (2, vI (s1 166 9)), (3, vI 0)] dX6_mayBeLate_20 rfl rfl (by decide) rfl rfl ?_
    refine x_iconst hP 22 dX6_mayBeLate_21 rfl ?_
    refine x_istore hP 24 [(0, vR (some 166)), (1, vI a), (2, vI (s1 166 9)), (3, vI 0), (4, vI 1)] dX6_mayBeLate_22 rfl (by decide) rfl rfl ?_
    exact h
  · replace h := h.2 hbr
    refine x_iconst hP 13 dX6_mayBeLate_12 rfl ?_
    exact x_iret hP dX6_mayBeLate_13 ⟨Nat.le_refl _, Nat.le_refl _⟩ h
theorem k_X6_mayBeLate_24 {d : Nat} {Q : pQ} {P : pP} {g : pG} {σ : pM} (hP : Clo (pCall d) yX6_mayBeLate cX6_mayBeLate (some .int) 5 0 0 Q P) (x1 : Int) (x2 : Int) (x3 : Int) (x4 : Int) (hG : gAll g) (h : iR x4 ∧ (12 < x4 → Q [vI x3] g σ) ∧ (¬ (12 < x4) → ∃ (s1 : pM), Ca d yX6_copy [vR (some 166), vI 0, vI 52] g σ [] g s1 ∧ (0 ≤ (59 + x1) ∧ (59 + x1) < 1300) ∧ (0 ≤ (59 + x1) ∧ (59 + x1) < 1300) ∧ (0 ≤ (59 + x1) ∧ (59 + x1) < 1300) ∧ iR ((up2 s1 167 (Int.toNat (59 + x1)) ((s1 167 (Int.toNat (59 + x1))) + x4)) 167 (Int.toNat (59 + x1))) ∧ (99 < ((up2 s1 167 (Int.toNat (59 + x1)) ((s1 167 (Int.toNat (59 + x1))) + x4)) 167 (Int.toNat (59 + x1))) → P 24 [(0, vR (some 166)), (1, vI x1), (2, vI x2), (3, vI x3), (4, vI (x4 + 1))] [] g (up2 s1 167 (Int.toNat (59 + x1)) ((s1 167 (Int.toNat (59 + x1))) + x4)) 0 0) ∧ (¬ (99 < ((up2 s1 167 (Int.toNat (59 + x1)) ((s1 167 (Int.toNat (59 + x1))) + x4)) 167 (Int.toNat (59 + x1)))) → ∃ (v2 : Int), Ca d yX6_brought [vR (some 166), vI 52, vI ((up2 s1 167 (Int.toNat (59 + x1)) ((s1 167 (Int.toNat (59 + x1))) + x4)) 167 54)] g (up2 s1 167 (Int.toNat (59 + x1)) ((s1 167 (Int.toNat (59 + x1))) + x4)) [vI v2] g (up2 s1 167 (Int.toNat (59 + x1)) ((s1 167 (Int.toNat (59 + x1))) + x4)) ∧ ∃ (v3 : Int), Ca d yX6_used [vR (some 166), vI 52] g (up2 s1 167 (Int.toNat (59 + x1)) ((s1 167 (Int.toNat (59 + x1))) + x4)) [vI v3] g (up2 s1 167 (Int.toNat (59 + x1)) ((s1 167 (Int.toNat (59 + x1))) + x4)) ∧ iR v2 ∧ iR v3 ∧ (v2 < v3 → P 24 [(0, vR (some 166)), (1, vI x1), (2, vI x2), (3, vI x3), (4, vI (x4 + 1))] [] g (up2 s1 167 (Int.toNat (59 + x1)) ((s1 167 (Int.toNat (59 + x1))) + x4)) 0 0) ∧ (¬ (v2 < v3) → ∃ (s4 : pM), Ca d yX6_seeks [vR (some 166)] g (up2 s1 167 (Int.toNat (59 + x1)) ((s1 167 (Int.toNat (59 + x1))) + x4)) [] g s4 ∧ iR (s4 166 8) ∧ ((s4 166 8) = ((-1)) → P 24 [(0, vR (some 166)), (1, vI x1), (2, vI x2), (3, vI x3), (4, vI (x4 + 1))] [] g s4 0 0) ∧ (¬ ((s4 166 8) = ((-1))) → iR (s4 166 9) ∧ iR x2 ∧ (¬ (s4 166 9) = x2 → P 24 [(0, vR (some 166)), (1, vI x1), (2, vI x2), (3, vI x3), (4, vI (x4 + 1))] [] g s4 0 0) ∧ (¬ (¬ (s4 166 9) = x2) → P 24 [(0, vR (some 166)), (1, vI x1), (2, vI x2), (3, vI x4), (4, vI (x4 + 1))] [] g s4 0 0)))))) : P 24 [(0, vR (some 166)), (1, vI x1), (2, vI x2), (3, vI x3), (4, vI x4)] [] g σ 0 0 := by
  refine x_iload hP 26 dX6_mayBeLate_24 rfl mm4 ?_
  refine x_bipush hP 28 dX6_mayBeLate_26 rfl (by decide) ?_
  obtain ⟨hs1, h⟩ := h
  refine x_icmp hP 31 121 (12 < x4) dX6_mayBeLate_28 rfl rfl hs1 (by decide) rfl (fun hbr => ?_) (fun hbr => ?_)
  · replace h := h.1 hbr
    refine x_iloadn hP 122 3 dX6_mayBeLate_121 rfl rfl mm3 ?_
    exact x_iret hP dX6_mayBeLate_122 ⟨Nat.le_refl _, Nat.le_refl _⟩ h
  · replace h := h.2 hbr
    refine x_aloadn hP 32 0 dX6_mayBeLate_31 rfl rfl mm0 ?_
    refine x_iconst hP 33 dX6_mayBeLate_32 rfl ?_
    refine x_bipush hP 35 dX6_mayBeLate_33 rfl (by decide) ?_
    obtain ⟨s1, hc, h⟩ := h
    refine x_cv hP 38 [vI 0, vI 52] [] dX6_mayBeLate_35 rfl (hG.O_166) (by decide) rfl ml_RX6_43 im_X6_copy se_X6_copy it_RX6 pp_X6_copy bd_X6_copy rfl rfl ⟨Nat.le_refl _, Nat.le_refl _⟩ (by simp [pC]) hc ?_
    refine x_aloadn hP 39 0 dX6_mayBeLate_38 rfl rfl mm0 ?_
    refine x_getr hP 42 167 dX6_mayBeLate_39 rfl fl_RX6_7 (hG.O_166) (by decide) rfl (hG.R_166_0) ?_
    refine x_bipush hP 44 dX6_mayBeLate_42 rfl (by decide) ?_
    refine x_iloadn hP 45 1 dX6_mayBeLate_44 rfl rfl mm1 ?_
    refine x_iadd hP 46 dX6_mayBeLate_45 rfl ?_
    refine x_dup2 hP 47 dX6_mayBeLate_46 rfl rfl rfl ?_
    obtain ⟨hs, h⟩ := h
    refine x_iald hP 48 dX6_mayBeLate_47 rfl (hG.A_167) (by decide) hs ?_
    refine x_iload hP 50 dX6_mayBeLate_48 rfl mm4 ?_
    refine x_iadd hP 51 dX6_mayBeLate_50 rfl ?_
    obtain ⟨hs1, h⟩ := h
    refine x_iast hP 52 dX6_mayBeLate_51 rfl (hG.A_167) (by decide) hs1 ?_
    refine x_aloadn hP 53 0 dX6_mayBeLate_52 rfl rfl mm0 ?_
    refine x_getr hP 56 167 dX6_mayBeLate_53 rfl fl_RX6_7 (hG.O_166) (by decide) rfl (hG.R_166_0) ?_
    refine x_bipush hP 58 dX6_mayBeLate_56 rfl (by decide) ?_
    refine x_iloadn hP 59 1 dX6_mayBeLate_58 rfl rfl mm1 ?_
    refine x_iadd hP 60 dX6_mayBeLate_59 rfl ?_
    obtain ⟨hs, h⟩ := h
    refine x_iald hP 61 dX6_mayBeLate_60 rfl (hG.A_167) (by decide) hs ?_
    refine x_bipush hP 63 dX6_mayBeLate_61 rfl (by decide) ?_
    obtain ⟨hs1, h⟩ := h
    refine x_icmp hP 66 115 (99 < ((up2 s1 167 (Int.toNat (59 + x1)) ((s1 167 (Int.toNat (59 + x1))) + x4)) 167 (Int.toNat (59 + x1)))) dX6_mayBeLate_63 rfl rfl hs1 (by decide) rfl (fun hbr => ?_) (fun hbr => ?_)
    · replace h := h.1 hbr
      refine x_iinc hP 118 [(0, vR (some 166)), (1, vI x1), (2, vI x2), (3, vI x3), (4, vI (x4 + 1))] dX6_mayBeLate_115 rfl mm4 (by decide) rfl rfl ?_
      refine x_goto hP 24 dX6_mayBeLate_118 rfl ?_
      exact h
    · replace h := h.2 hbr
      refine x_aloadn hP 67 0 dX6_mayBeLate_66 rfl rfl mm0 ?_
      refine x_bipush hP 69 dX6_mayBeLate_67 rfl (by decide) ?_
      refine x_aloadn hP 70 0 dX6_mayBeLate_69 rfl rfl mm0 ?_
      refine x_getr hP 73 167 dX6_mayBeLate_70 rfl fl_RX6_7 (hG.O_166) (by decide) rfl (hG.R_166_0) ?_
      refine x_bipush hP 75 dX6_mayBeLate_73 rfl (by decide) ?_
      refine x_iald hP 76 dX6_mayBeLate_75 rfl (hG.A_167) (by decide) (by decide) ?_
      obtain ⟨v2, hc, h⟩ := h
      refine x_cv hP 79 [vI 52, vI ((up2 s1 167 (Int.toNat (59 + x1)) ((s1 167 (Int.toNat (59 + x1))) + x4)) 167 54)] [] dX6_mayBeLate_76 rfl (hG.O_166) (by decide) rfl ml_RX6_62 im_X6_brought se_X6_brought it_RX6 pp_X6_brought bd_X6_brought rfl rfl ⟨Nat.le_refl _, Nat.le_refl _⟩ (by simp [pC]) hc ?_
      refine x_aloadn hP 80 0 dX6_mayBeLate_79 rfl rfl mm0 ?_
      refine x_bipush hP 82 dX6_mayBeLate_80 rfl (by decide) ?_
      obtain ⟨v3, hc, h⟩ := h
      refine x_cv hP 85 [vI 52] [vI v2] dX6_mayBeLate_82 rfl (hG.O_166) (by decide) rfl ml_RX6_58 im_X6_used se_X6_used it_RX6 pp_X6_used bd_X6_used rfl rfl ⟨Nat.le_refl _, Nat.le_refl _⟩ (by simp [pC]) hc ?_
      obtain ⟨hs1, hs2, h⟩ := h
      refine x_icmp hP 88 115 (v2 < v3) dX6_mayBeLate_85 rfl rfl hs1 hs2 rfl (fun hbr => ?_) (fun hbr => ?_)
      · replace h := h.1 hbr
        refine x_iinc hP 118 [(0, vR (some 166)), (1, vI x1), (2, vI x2), (3, vI x3), (4, vI (x4 + 1))] dX6_mayBeLate_115 rfl mm4 (by decide) rfl rfl ?_
        refine x_goto hP 24 dX6_mayBeLate_118 rfl ?_
        exact h
      · replace h := h.2 hbr
        refine x_aloadn hP 89 0 dX6_mayBeLate_88 rfl rfl mm0 ?_
        obtain ⟨s4, hc, h⟩ := h
        refine x_cv hP 92 [] [] dX6_mayBeLate_89 rfl (hG.O_166) (by decide) rfl ml_RX6_102 im_X6_seeks se_X6_seeks it_RX6 pp_X6_seeks bd_X6_seeks rfl rfl ⟨Nat.le_refl _, Nat.le_refl _⟩ (by simp [pC]) hc ?_
        refine x_aloadn hP 93 0 dX6_mayBeLate_92 rfl rfl mm0 ?_
        refine x_geti hP 96 dX6_mayBeLate_93 rfl fl_RX6_86 (hG.O_166) (by decide) rfl ?_
        refine x_iconst hP 97 dX6_mayBeLate_96 rfl ?_
        obtain ⟨hs1, h⟩ := h
        refine x_icmp hP 100 113 ((s4 166 8) = ((-1))) dX6_mayBeLate_97 rfl rfl hs1 (by decide) rfl (fun hbr => ?_) (fun hbr => ?_)
        · replace h := h.1 hbr
          refine x_iloadn hP 114 3 dX6_mayBeLate_113 rfl rfl mm3 ?_
          refine x_istoren hP 115 3 [(0, vR (some 166)), (1, vI x1), (2, vI x2), (3, vI x3), (4, vI x4)] dX6_mayBeLate_114 rfl rfl (by decide) rfl rfl ?_
          refine x_iinc hP 118 [(0, vR (some 166)), (1, vI x1), (2, vI x2), (3, vI x3), (4, vI (x4 + 1))] dX6_mayBeLate_115 rfl mm4 (by decide) rfl rfl ?_
          refine x_goto hP 24 dX6_mayBeLate_118 rfl ?_
          exact h
        · replace h := h.2 hbr
          refine x_aloadn hP 101 0 dX6_mayBeLate_100 rfl rfl mm0 ?_
          refine x_geti hP 104 dX6_mayBeLate_101 rfl fl_RX6_89 (hG.O_166) (by decide) rfl ?_
          refine x_iloadn hP 105 2 dX6_mayBeLate_104 rfl rfl mm2 ?_
          obtain ⟨hs1, hs2, h⟩ := h
          refine x_icmp hP 108 113 (¬ (s4 166 9) = x2) dX6_mayBeLate_105 rfl rfl hs1 hs2 rfl (fun hbr => ?_) (fun hbr => ?_)
          · replace h := h.1 hbr
            refine x_iloadn hP 114 3 dX6_mayBeLate_113 rfl rfl mm3 ?_
            refine x_istoren hP 115 3 [(0, vR (some 166)), (1, vI x1), (2, vI x2), (3, vI x3), (4, vI x4)] dX6_mayBeLate_114 rfl rfl (by decide) rfl rfl ?_
            refine x_iinc hP 118 [(0, vR (some 166)), (1, vI x1), (2, vI x2), (3, vI x3), (4, vI (x4 + 1))] dX6_mayBeLate_115 rfl mm4 (by decide) rfl rfl ?_
            refine x_goto hP 24 dX6_mayBeLate_118 rfl ?_
            exact h
          · replace h := h.2 hbr
            refine x_iload hP 110 dX6_mayBeLate_108 rfl mm4 ?_
            refine x_goto hP 114 dX6_mayBeLate_110 rfl ?_
            refine x_istoren hP 115 3 [(0, vR (some 166)), (1, vI x1), (2, vI x2), (3, vI x4), (4, vI x4)] dX6_mayBeLate_114 rfl rfl (by decide) rfl rfl ?_
            refine x_iinc hP 118 [(0, vR (some 166)), (1, vI x1), (2, vI x2), (3, vI x4), (4, vI (x4 + 1))] dX6_mayBeLate_115 rfl mm4 (by decide) rfl rfl ?_
            refine x_goto hP 24 dX6_mayBeLate_118 rfl ?_
            exact h
theorem k_X6_joints_0 {d : Nat} {Q : pQ} {P : pP} {g : pG} {σ : pM} (hP : Clo (pCall d) yX6_joints cX6_joints (some .int) 3 0 0 Q P) (hG : gAll g) (h : P 4 [(0, vR (some 166)), (1, vI 0), (2, vI 0)] [] g σ 0 0) : P 0 [(0, vR (some 166))] [] g σ 0 0 := by
  refine x_iconst hP 1 dX6_joints_0 rfl ?_
  refine x_istoren hP 2 1 [(0, vR (some 166)), (1, vI 0)] dX6_joints_1 rfl rfl (by decide) rfl rfl ?_
  refine x_iconst hP 3 dX6_joints_2 rfl ?_
  refine x_istoren hP 4 2 [(0, vR (some 166)), (1, vI 0), (2, vI 0)] dX6_joints_3 rfl rfl (by decide) rfl rfl ?_
  exact h
theorem k_X6_joints_4 {d : Nat} {Q : pQ} {P : pP} {g : pG} {σ : pM} (hP : Clo (pCall d) yX6_joints cX6_joints (some .int) 3 0 0 Q P) (x1 : Int) (x2 : Int) (hG : gAll g) (h : iR x2 ∧ (27 ≤ x2 → Q [vI x1] g σ) ∧ (¬ (27 ≤ x2) → ∃ (v1 : Int), Ca d yX6_isJoint [vR (some 166), vI 0, vI x2] g σ [vI v1] g σ ∧ iR v1 ∧ (v1 = 0 → P 4 [(0, vR (some 166)), (1, vI (x1 + 0)), (2, vI (x2 + 1))] [] g σ 0 0) ∧ (¬ (v1 = 0) → P 4 [(0, vR (some 166)), (1, vI (x1 + 1)), (2, vI (x2 + 1))] [] g σ 0 0))) : P 4 [(0, vR (some 166)), (1, vI x1), (2, vI x2)] [] g σ 0 0 := by
  refine x_iloadn hP 5 2 dX6_joints_4 rfl rfl mm2 ?_
  refine x_bipush hP 7 dX6_joints_5 rfl (by decide) ?_
  obtain ⟨hs1, h⟩ := h
  refine x_icmp hP 10 33 (27 ≤ x2) dX6_joints_7 rfl rfl hs1 (by decide) rfl (fun hbr => ?_) (fun hbr => ?_)
  · replace h := h.1 hbr
    refine x_iloadn hP 34 1 dX6_joints_33 rfl rfl mm1 ?_
    exact x_iret hP dX6_joints_34 ⟨Nat.le_refl _, Nat.le_refl _⟩ h
  · replace h := h.2 hbr
    refine x_iloadn hP 11 1 dX6_joints_10 rfl rfl mm1 ?_
    refine x_aloadn hP 12 0 dX6_joints_11 rfl rfl mm0 ?_
    refine x_iconst hP 13 dX6_joints_12 rfl ?_
    refine x_iloadn hP 14 2 dX6_joints_13 rfl rfl mm2 ?_
    obtain ⟨v1, hc, h⟩ := h
    refine x_cv hP 17 [vI 0, vI x2] [vI x1] dX6_joints_14 rfl (hG.O_166) (by decide) rfl ml_RX6_73 im_X6_isJoint se_X6_isJoint it_RX6 pp_X6_isJoint bd_X6_isJoint rfl rfl ⟨Nat.le_refl _, Nat.le_refl _⟩ (by simp [pC]) hc ?_
    obtain ⟨hs1, h⟩ := h
    refine x_ifc hP 20 24 (v1 = 0) dX6_joints_17 rfl rfl hs1 rfl (fun hbr => ?_) (fun hbr => ?_)
    · replace h := h.1 hbr
      refine x_iconst hP 25 dX6_joints_24 rfl ?_
      refine x_iadd hP 26 dX6_joints_25 rfl ?_
      refine x_istoren hP 27 1 [(0, vR (some 166)), (1, vI (x1 + 0)), (2, vI x2)] dX6_joints_26 rfl rfl (by decide) rfl rfl ?_
      refine x_iinc hP 30 [(0, vR (some 166)), (1, vI (x1 + 0)), (2, vI (x2 + 1))] dX6_joints_27 rfl mm2 (by decide) rfl rfl ?_
      refine x_goto hP 4 dX6_joints_30 rfl ?_
      exact h
    · replace h := h.2 hbr
      refine x_iconst hP 21 dX6_joints_20 rfl ?_
      refine x_goto hP 25 dX6_joints_21 rfl ?_
      refine x_iadd hP 26 dX6_joints_25 rfl ?_
      refine x_istoren hP 27 1 [(0, vR (some 166)), (1, vI (x1 + 1)), (2, vI x2)] dX6_joints_26 rfl rfl (by decide) rfl rfl ?_
      refine x_iinc hP 30 [(0, vR (some 166)), (1, vI (x1 + 1)), (2, vI (x2 + 1))] dX6_joints_27 rfl mm2 (by decide) rfl rfl ?_
      refine x_goto hP 4 dX6_joints_30 rfl ?_
      exact h
theorem k_X6_can_0 {d : Nat} {Q : pQ} {P : pP} {g : pG} {σ : pM} (hP : Clo (pCall d) yX6_can cX6_can (some .int) 3 0 0 Q P) (hG : gAll g) (h : P 4 [(0, vR (some 166)), (1, vI 0), (2, vI 0)] [] g σ 0 0) : P 0 [(0, vR (some 166))] [] g σ 0 0 := by
  refine x_iconst hP 1 dX6_can_0 rfl ?_
  refine x_istoren hP 2 1 [(0, vR (some 166)), (1, vI 0)] dX6_can_1 rfl rfl (by decide) rfl rfl ?_
  refine x_iconst hP 3 dX6_can_2 rfl ?_
  refine x_istoren hP 4 2 [(0, vR (some 166)), (1, vI 0), (2, vI 0)] dX6_can_3 rfl rfl (by decide) rfl rfl ?_
  exact h
theorem k_X6_can_4 {d : Nat} {Q : pQ} {P : pP} {g : pG} {σ : pM} (hP : Clo (pCall d) yX6_can cX6_can (some .int) 3 0 0 Q P) (x1 : Int) (x2 : Int) (hG : gAll g) (h : ∃ (v1 : Int), Ca d yX6_cells [vR (some 166)] g σ [vI v1] g σ ∧ iR x2 ∧ iR v1 ∧ (v1 ≤ x2 → Q [vI x1] g σ) ∧ (¬ (v1 ≤ x2) → ∃ (v2 : Int), Ca d yX6_beginOf [vR (some 166), vI 0, vI x2] g σ [vI v2] g σ ∧ iR v2 ∧ (¬ v2 = ((-1)) → ((0 : Int) ≤ 1 ∧ 0 ≤ x2 ∧ x2 < 32 ∧ (1 : Int) * 2 ^ (x2 : Int).toNat < 4294967296) ∧ (0 ≤ x1 ∧ 0 ≤ ((1 : Int) * 2 ^ (x2 : Int).toNat : Int)) ∧ P 4 [(0, vR (some 166)), (1, vI (((Int.toNat x1 ||| Int.toNat ((1 : Int) * 2 ^ (x2 : Int).toNat) : Nat) : Int))), (2, vI (x2 + 1))] [] g σ 0 0) ∧ (¬ (¬ v2 = ((-1))) → (0 ≤ x1 ∧ 0 ≤ (0 : Int)) ∧ P 4 [(0, vR (some 166)), (1, vI (((Int.toNat x1 ||| Int.toNat 0 : Nat) : Int))), (2, vI (x2 + 1))] [] g σ 0 0))) : P 4 [(0, vR (some 166)), (1, vI x1), (2, vI x2)] [] g σ 0 0 := by
  refine x_iloadn hP 5 2 dX6_can_4 rfl rfl mm2 ?_
  refine x_aloadn hP 6 0 dX6_can_5 rfl rfl mm0 ?_
  obtain ⟨v1, hc, h⟩ := h
  refine x_cv hP 9 [] [vI x2] dX6_can_6 rfl (hG.O_166) (by decide) rfl ml_RX6_46 im_X6_cells se_X6_cells it_RX6 pp_X6_cells bd_X6_cells rfl rfl ⟨Nat.le_refl _, Nat.le_refl _⟩ (by simp [pC]) hc ?_
  obtain ⟨hs1, hs2, h⟩ := h
  refine x_icmp hP 12 38 (v1 ≤ x2) dX6_can_9 rfl rfl hs1 hs2 rfl (fun hbr => ?_) (fun hbr => ?_)
  · replace h := h.1 hbr
    refine x_iloadn hP 39 1 dX6_can_38 rfl rfl mm1 ?_
    exact x_iret hP dX6_can_39 ⟨Nat.le_refl _, Nat.le_refl _⟩ h
  · replace h := h.2 hbr
    refine x_iloadn hP 13 1 dX6_can_12 rfl rfl mm1 ?_
    refine x_aloadn hP 14 0 dX6_can_13 rfl rfl mm0 ?_
    refine x_iconst hP 15 dX6_can_14 rfl ?_
    refine x_iloadn hP 16 2 dX6_can_15 rfl rfl mm2 ?_
    obtain ⟨v2, hc, h⟩ := h
    refine x_cv hP 19 [vI 0, vI x2] [vI x1] dX6_can_16 rfl (hG.O_166) (by decide) rfl ml_RX6_67 im_X6_beginOf se_X6_beginOf it_RX6 pp_X6_beginOf bd_X6_beginOf rfl rfl ⟨Nat.le_refl _, Nat.le_refl _⟩ (by simp [pC]) hc ?_
    refine x_iconst hP 20 dX6_can_19 rfl ?_
    obtain ⟨hs1, h⟩ := h
    refine x_icmp hP 23 27 (¬ v2 = ((-1))) dX6_can_20 rfl rfl hs1 (by decide) rfl (fun hbr => ?_) (fun hbr => ?_)
    · replace h := h.1 hbr
      refine x_iconst hP 28 dX6_can_27 rfl ?_
      refine x_iloadn hP 29 2 dX6_can_28 rfl rfl mm2 ?_
      obtain ⟨hs, h⟩ := h
      refine x_ishl hP 30 dX6_can_29 rfl hs ?_
      obtain ⟨hs, h⟩ := h
      refine x_ior hP 31 dX6_can_30 rfl hs ?_
      refine x_istoren hP 32 1 [(0, vR (some 166)), (1, vI (((Int.toNat x1 ||| Int.toNat ((1 : Int) * 2 ^ (x2 : Int).toNat) : Nat) : Int))), (2, vI x2)] dX6_can_31 rfl rfl (by decide) rfl rfl ?_
      refine x_iinc hP 35 [(0, vR (some 166)), (1, vI (((Int.toNat x1 ||| Int.toNat ((1 : Int) * 2 ^ (x2 : Int).toNat) : Nat) : Int))), (2, vI (x2 + 1))] dX6_can_32 rfl mm2 (by decide) rfl rfl ?_
      refine x_goto hP 4 dX6_can_35 rfl ?_
      exact h
    · replace h := h.2 hbr
      refine x_iconst hP 24 dX6_can_23 rfl ?_
      refine x_goto hP 30 dX6_can_24 rfl ?_
      obtain ⟨hs, h⟩ := h
      refine x_ior hP 31 dX6_can_30 rfl hs ?_
      refine x_istoren hP 32 1 [(0, vR (some 166)), (1, vI (((Int.toNat x1 ||| Int.toNat 0 : Nat) : Int))), (2, vI x2)] dX6_can_31 rfl rfl (by decide) rfl rfl ?_
      refine x_iinc hP 35 [(0, vR (some 166)), (1, vI (((Int.toNat x1 ||| Int.toNat 0 : Nat) : Int))), (2, vI (x2 + 1))] dX6_can_32 rfl mm2 (by decide) rfl rfl ?_
      refine x_goto hP 4 dX6_can_35 rfl ?_
      exact h
theorem k_X6_wrong_0 {d : Nat} {Q : pQ} {P : pP} {g : pG} {σ : pM} (hP : Clo (pCall d) yX6_wrong cX6_wrong (some .int) 2 0 0 Q P) (hG : gAll g) (h : P 2 [(0, vR (some 166)), (1, vI 0)] [] g σ 0 0) : P 0 [(0, vR (some 166))] [] g σ 0 0 := by
  refine x_iconst hP 1 dX6_wrong_0 rfl ?_
  refine x_istoren hP 2 1 [(0, vR (some 166)), (1, vI 0)] dX6_wrong_1 rfl rfl (by decide) rfl rfl ?_
  exact h
theorem k_X6_wrong_2 {d : Nat} {Q : pQ} {P : pP} {g : pG} {σ : pM} (hP : Clo (pCall d) yX6_wrong cX6_wrong (some .int) 2 0 0 Q P) (x1 : Int) (hG : gAll g) (h : iR x1 ∧ iR (σ 166 5) ∧ ((σ 166 5) ≤ x1 → Q [vI ((-1))] g σ) ∧ (¬ ((σ 166 5) ≤ x1) → (0 ≤ x1 ∧ x1 < 20) ∧ ∃ (v1 : Int), Ca d yX6_beyond [vR (some 166), vI 0, vI (σ 170 (Int.toNat x1))] g σ [vI v1] g σ ∧ iR v1 ∧ (v1 = ((-1)) → Q [vI x1] g σ) ∧ (¬ (v1 = ((-1))) → (0 ≤ x1 ∧ x1 < 20) ∧ ∃ (v2 : Int), Ca d yX6_isJoint [vR (some 166), vI 0, vI (σ 170 (Int.toNat x1))] g σ [vI v2] g σ ∧ (0 ≤ x1 ∧ x1 < 20) ∧ iR v2 ∧ iR (σ 171 (Int.toNat x1)) ∧ (v2 = (σ 171 (Int.toNat x1)) → P 2 [(0, vR (some 166)), (1, vI (x1 + 1))] [] g σ 0 0) ∧ (¬ (v2 = (σ 171 (Int.toNat x1))) → Q [vI x1] g σ)))) : P 2 [(0, vR (some 166)), (1, vI x1)] [] g σ 0 0 := by
  refine x_iloadn hP 3 1 dX6_wrong_2 rfl rfl mm1 ?_
  refine x_aloadn hP 4 0 dX6_wrong_3 rfl rfl mm0 ?_
  refine x_geti hP 7 dX6_wrong_4 rfl fl_RX6_108 (hG.O_166) (by decide) rfl ?_
  obtain ⟨hs1, hs2, h⟩ := h
  refine x_icmp hP 10 53 ((σ 166 5) ≤ x1) dX6_wrong_7 rfl rfl hs1 hs2 rfl (fun hbr => ?_) (fun hbr => ?_)
  · replace h := h.1 hbr
    refine x_iconst hP 54 dX6_wrong_53 rfl ?_
    exact x_iret hP dX6_wrong_54 ⟨Nat.le_refl _, Nat.le_refl _⟩ h
  · replace h := h.2 hbr
    refine x_aloadn hP 11 0 dX6_wrong_10 rfl rfl mm0 ?_
    refine x_iconst hP 12 dX6_wrong_11 rfl ?_
    refine x_aloadn hP 13 0 dX6_wrong_12 rfl rfl mm0 ?_
    refine x_getr hP 16 170 dX6_wrong_13 rfl fl_RX6_20 (hG.O_166) (by decide) rfl (hG.R_166_6) ?_
    refine x_iloadn hP 17 1 dX6_wrong_16 rfl rfl mm1 ?_
    obtain ⟨hs, h⟩ := h
    refine x_iald hP 18 dX6_wrong_17 rfl (hG.A_170) (by decide) hs ?_
    obtain ⟨v1, hc, h⟩ := h
    refine x_cv hP 21 [vI 0, vI (σ 170 (Int.toNat x1))] [] dX6_wrong_18 rfl (hG.O_166) (by decide) rfl ml_RX6_70 im_X6_beyond se_X6_beyond it_RX6 pp_X6_beyond bd_X6_beyond rfl rfl ⟨Nat.le_refl _, Nat.le_refl _⟩ (by simp [pC]) hc ?_
    refine x_iconst hP 22 dX6_wrong_21 rfl ?_
    obtain ⟨hs1, h⟩ := h
    refine x_icmp hP 25 45 (v1 = ((-1))) dX6_wrong_22 rfl rfl hs1 (by decide) rfl (fun hbr => ?_) (fun hbr => ?_)
    · replace h := h.1 hbr
      refine x_iloadn hP 46 1 dX6_wrong_45 rfl rfl mm1 ?_
      exact x_iret hP dX6_wrong_46 ⟨Nat.le_refl _, Nat.le_refl _⟩ h
    · replace h := h.2 hbr
      refine x_aloadn hP 26 0 dX6_wrong_25 rfl rfl mm0 ?_
      refine x_iconst hP 27 dX6_wrong_26 rfl ?_
      refine x_aloadn hP 28 0 dX6_wrong_27 rfl rfl mm0 ?_
      refine x_getr hP 31 170 dX6_wrong_28 rfl fl_RX6_20 (hG.O_166) (by decide) rfl (hG.R_166_6) ?_
      refine x_iloadn hP 32 1 dX6_wrong_31 rfl rfl mm1 ?_
      obtain ⟨hs, h⟩ := h
      refine x_iald hP 33 dX6_wrong_32 rfl (hG.A_170) (by decide) hs ?_
      obtain ⟨v2, hc, h⟩ := h
      refine x_cv hP 36 [vI 0, vI (σ 170 (Int.toNat x1))] [] dX6_wrong_33 rfl (hG.O_166) (by decide) rfl ml_RX6_73 im_X6_isJoint se_X6_isJoint it_RX6 pp_X6_isJoint bd_X6_isJoint rfl rfl ⟨Nat.le_refl _, Nat.le_refl _⟩ (by simp [pC]) hc ?_
      refine x_aloadn hP 37 0 dX6_wrong_36 rfl rfl mm0 ?_
      refine x_getr hP 40 171 dX6_wrong_37 rfl fl_RX6_23 (hG.O_166) (by decide) rfl (hG.R_166_7) ?_
      refine x_iloadn hP 41 1 dX6_wrong_40 rfl rfl mm1 ?_
      obtain ⟨hs, h⟩ := h
      refine x_zald hP 42 dX6_wrong_41 rfl (hG.A_171) (by decide) hs ?_
      obtain ⟨hs1, hs2, h⟩ := h
      refine x_icmp hP 45 47 (v2 = (σ 171 (Int.toNat x1))) dX6_wrong_42 rfl rfl hs1 hs2 rfl (fun hbr => ?_) (fun hbr => ?_)
      · replace h := h.1 hbr
        refine x_iinc hP 50 [(0, vR (some 166)), (1, vI (x1 + 1))] dX6_wrong_47 rfl mm1 (by decide) rfl rfl ?_
        refine x_goto hP 2 dX6_wrong_50 rfl ?_
        exact h
      · replace h := h.2 hbr
        refine x_iloadn hP 46 1 dX6_wrong_45 rfl rfl mm1 ?_
        exact x_iret hP dX6_wrong_46 ⟨Nat.le_refl _, Nat.le_refl _⟩ h
theorem k_X6_ofBest_0 {d : Nat} {Q : pQ} {P : pP} {g : pG} {σ : pM} (hP : Clo (pCall d) yX6_ofBest cX6_ofBest (some .int) 2 0 0 Q P) (a : Int) (hG : gAll g) (h : ∃ (s1 : pM), Ca d yX6_finds [vR (some 166)] g σ [] g s1 ∧ iR a ∧ (¬ a = 13 → Q [vI (s1 166 10)] g s1) ∧ (¬ (¬ a = 13) → Q [vI (s1 166 9)] g s1)) : P 0 [(0, vR (some 166)), (1, vI a)] [] g σ 0 0 := by
  refine x_aloadn hP 1 0 dX6_ofBest_0 rfl rfl mm0 ?_
  obtain ⟨s1, hc, h⟩ := h
  refine x_cv hP 4 [] [] dX6_ofBest_1 rfl (hG.O_166) (by decide) rfl ml_RX6_105 im_X6_finds se_X6_finds it_RX6 pp_X6_finds bd_X6_finds rfl rfl ⟨Nat.le_refl _, Nat.le_refl _⟩ (by simp [pC]) hc ?_
  refine x_iloadn hP 5 1 dX6_ofBest_4 rfl rfl mm1 ?_
  refine x_bipush hP 7 dX6_ofBest_5 rfl (by decide) ?_
  obtain ⟨hs1, h⟩ := h
  refine x_icmp hP 10 17 (¬ a = 13) dX6_ofBest_7 rfl rfl hs1 (by decide) rfl (fun hbr => ?_) (fun hbr => ?_)
  · replace h := h.1 hbr
    refine x_aloadn hP 18 0 dX6_ofBest_17 rfl rfl mm0 ?_
    refine x_geti hP 21 dX6_ofBest_18 rfl fl_RX6_92 (hG.O_166) (by decide) rfl ?_
    exact x_iret hP dX6_ofBest_21 ⟨Nat.le_refl _, Nat.le_refl _⟩ h
  · replace h := h.2 hbr
    refine x_aloadn hP 11 0 dX6_ofBest_10 rfl rfl mm0 ?_
    refine x_geti hP 14 dX6_ofBest_11 rfl fl_RX6_89 (hG.O_166) (by decide) rfl ?_
    refine x_goto hP 21 dX6_ofBest_14 rfl ?_
    exact x_iret hP dX6_ofBest_21 ⟨Nat.le_refl _, Nat.le_refl _⟩ h
theorem k_X6_told_0 {d : Nat} {Q : pQ} {P : pP} {g : pG} {σ : pM} (hP : Clo (pCall d) yX6_told cX6_told (some .int) 2 0 0 Q P) (a : Int) (hG : gAll g) (h : iR a ∧ ((a < 0 ∨ 19 < a) → Q [vI ((-1000000002))] g σ) ∧ (a = 0 → Q [vI (σ 167 0)] g σ) ∧ (a = 1 → Q [vI (σ 167 1)] g σ) ∧ (a = 2 → Q [vI (σ 167 2)] g σ) ∧ (a = 3 → Q [vI (σ 167 3)] g σ) ∧ (a = 4 → ∃ (v1 : Int), Ca d yX6_brought [vR (some 166), vI 0, vI (σ 167 2)] g σ [vI v1] g σ ∧ ∃ (v2 : Int), Ca d yX6_used [vR (some 166), vI 0] g σ [vI v2] g σ ∧ Q [vI (v1 - v2)] g σ) ∧ (a = 5 → ∃ (v3 : Int), Ca d yX6_poured [vR (some 166)] g σ [vI v3] g σ ∧ Q [vI v3] g σ) ∧ (a = 6 → ∃ (v4 : Int), Ca d yX6_can [vR (some 166)] g σ [vI v4] g σ ∧ Q [vI v4] g σ) ∧ (a = 7 → Q [vI (σ 167 4)] g σ) ∧ (a = 8 → Q [vI (σ 167 5)] g σ) ∧ (a = 9 → Q [vI (σ 167 6)] g σ) ∧ (a = 10 → ∃ (v5 : Int), Ca d yX6_joints [vR (some 166)] g σ [vI v5] g σ ∧ Q [vI v5] g σ) ∧ (a = 11 → ∃ (v6 : Int), Ca d yX6_harm [vR (some 166), vI 0, vI 0] g σ [vI v6] g σ ∧ Q [vI v6] g σ) ∧ (a = 12 → ∃ (v7 : Int), Ca d yX6_firstToSet [vR (some 166)] g σ [vI v7] g σ ∧ Q [vI v7] g σ) ∧ (a = 13 → ∃ (v8 : Int) (s9 : pM), Ca d yX6_ofBest [vR (some 166), vI a] g σ [vI v8] g s9 ∧ Q [vI v8] g s9) ∧ (a = 14 → ∃ (v10 : Int) (s11 : pM), Ca d yX6_ofBest [vR (some 166), vI a] g σ [vI v10] g s11 ∧ Q [vI v10] g s11) ∧ (a = 15 → ∃ (v12 : Int) (s13 : pM), Ca d yX6_mayWait [vR (some 166)] g σ [vI v12] g s13 ∧ Q [vI v12] g s13) ∧ (a = 16 → ∃ (v14 : Int), Ca d yX6_harm [vR (some 166), vI 0, vI 1] g σ [vI v14] g σ ∧ Q [vI v14] g σ) ∧ (a = 17 → Q [vI (σ 166 5)] g σ) ∧ (a = 18 → ∃ (v15 : Int), Ca d yX6_wrong [vR (some 166)] g σ [vI v15] g σ ∧ Q [vI v15] g σ) ∧ (a = 19 → Q [vI (σ 166 3)] g σ)) : P 0 [(0, vR (some 166)), (1, vI a)] [] g σ 0 0 := by
  refine x_iloadn hP 1 1 dX6_told_0 rfl rfl mm1 ?_
  obtain ⟨hs, hd, hc0, hc1, hc2, hc3, hc4, hc5, hc6, hc7, hc8, hc9, hc10, hc11, hc12, hc13, hc14, hc15, hc16, hc17, hc18, hc19⟩ := h
  refine x_tsw hP 224 dX6_told_1 hs rfl (fun hbr => ?_) (fun hbr => ?_)
  · have h := hd hbr
    refine x_ldc hP 226 dX6_told_224 rfl kc_RX6_132 ?_
    exact x_iret hP dX6_told_226 ⟨Nat.le_refl _, Nat.le_refl _⟩ h
  · have hall : a = 0 ∨ a = 1 ∨ a = 2 ∨ a = 3 ∨ a = 4 ∨ a = 5 ∨ a = 6 ∨ a = 7 ∨ a = 8 ∨ a = 9 ∨ a = 10 ∨ a = 11 ∨ a = 12 ∨ a = 13 ∨ a = 14 ∨ a = 15 ∨ a = 16 ∨ a = 17 ∨ a = 18 ∨ a = 19 := by omega
    rcases hall with e | e | e | e | e | e | e | e | e | e | e | e | e | e | e | e | e | e | e | e
    · have h := hc0 e
      refine ⟨95, 96, by rw [e]; rfl, rfl, ?_⟩
      refine x_aloadn hP 97 0 dX6_told_96 rfl rfl mm0 ?_
      refine x_getr hP 100 167 dX6_told_97 rfl fl_RX6_7 (hG.O_166) (by decide) rfl (hG.R_166_0) ?_
      refine x_iconst hP 101 dX6_told_100 rfl ?_
      refine x_iald hP 102 dX6_told_101 rfl (hG.A_167) (by decide) (by decide) ?_
      exact x_iret hP dX6_told_102 ⟨Nat.le_refl _, Nat.le_refl _⟩ h
    · have h := hc1 e
      refine ⟨102, 103, by rw [e]; rfl, rfl, ?_⟩
      refine x_aloadn hP 104 0 dX6_told_103 rfl rfl mm0 ?_
      refine x_getr hP 107 167 dX6_told_104 rfl fl_RX6_7 (hG.O_166) (by decide) rfl (hG.R_166_0) ?_
      refine x_iconst hP 108 dX6_told_107 rfl ?_
      refine x_iald hP 109 dX6_told_108 rfl (hG.A_167) (by decide) (by decide) ?_
      exact x_iret hP dX6_told_109 ⟨Nat.le_refl _, Nat.le_refl _⟩ h
    · have h := hc2 e
      refine ⟨109, 110, by rw [e]; rfl, rfl, ?_⟩
      refine x_aloadn hP 111 0 dX6_told_110 rfl rfl mm0 ?_
      refine x_getr hP 114 167 dX6_told_111 rfl fl_RX6_7 (hG.O_166) (by decide) rfl (hG.R_166_0) ?_
      refine x_iconst hP 115 dX6_told_114 rfl ?_
      refine x_iald hP 116 dX6_told_115 rfl (hG.A_167) (by decide) (by decide) ?_
      exact x_iret hP dX6_told_116 ⟨Nat.le_refl _, Nat.le_refl _⟩ h
    · have h := hc3 e
      refine ⟨116, 117, by rw [e]; rfl, rfl, ?_⟩
      refine x_aloadn hP 118 0 dX6_told_117 rfl rfl mm0 ?_
      refine x_getr hP 121 167 dX6_told_118 rfl fl_RX6_7 (hG.O_166) (by decide) rfl (hG.R_166_0) ?_
      refine x_iconst hP 122 dX6_told_121 rfl ?_
      refine x_iald hP 123 dX6_told_122 rfl (hG.A_167) (by decide) (by decide) ?_
      exact x_iret hP dX6_told_123 ⟨Nat.le_refl _, Nat.le_refl _⟩ h
    · have h := hc4 e
      refine ⟨123, 124, by rw [e]; rfl, rfl, ?_⟩
      refine x_aloadn hP 125 0 dX6_told_124 rfl rfl mm0 ?_
      refine x_iconst hP 126 dX6_told_125 rfl ?_
      refine x_aloadn hP 127 0 dX6_told_126 rfl rfl mm0 ?_
      refine x_getr hP 130 167 dX6_told_127 rfl fl_RX6_7 (hG.O_166) (by decide) rfl (hG.R_166_0) ?_
      refine x_iconst hP 131 dX6_told_130 rfl ?_
      refine x_iald hP 132 dX6_told_131 rfl (hG.A_167) (by decide) (by decide) ?_
      obtain ⟨v1, hc, h⟩ := h
      refine x_cv hP 135 [vI 0, vI (σ 167 2)] [] dX6_told_132 rfl (hG.O_166) (by decide) rfl ml_RX6_62 im_X6_brought se_X6_brought it_RX6 pp_X6_brought bd_X6_brought rfl rfl ⟨Nat.le_refl _, Nat.le_refl _⟩ (by simp [pC]) hc ?_
      refine x_aloadn hP 136 0 dX6_told_135 rfl rfl mm0 ?_
      refine x_iconst hP 137 dX6_told_136 rfl ?_
      obtain ⟨v2, hc, h⟩ := h
      refine x_cv hP 140 [vI 0] [vI v1] dX6_told_137 rfl (hG.O_166) (by decide) rfl ml_RX6_58 im_X6_used se_X6_used it_RX6 pp_X6_used bd_X6_used rfl rfl ⟨Nat.le_refl _, Nat.le_refl _⟩ (by simp [pC]) hc ?_
      refine x_isub hP 141 dX6_told_140 rfl ?_
      exact x_iret hP dX6_told_141 ⟨Nat.le_refl _, Nat.le_refl _⟩ h
    · have h := hc5 e
      refine ⟨141, 142, by rw [e]; rfl, rfl, ?_⟩
      refine x_aloadn hP 143 0 dX6_told_142 rfl rfl mm0 ?_
      obtain ⟨v3, hc, h⟩ := h
      refine x_cv hP 146 [] [] dX6_told_143 rfl (hG.O_166) (by decide) rfl ml_RX6_111 im_X6_poured se_X6_poured it_RX6 pp_X6_poured bd_X6_poured rfl rfl ⟨Nat.le_refl _, Nat.le_refl _⟩ (by simp [pC]) hc ?_
      exact x_iret hP dX6_told_146 ⟨Nat.le_refl _, Nat.le_refl _⟩ h
    · have h := hc6 e
      refine ⟨146, 147, by rw [e]; rfl, rfl, ?_⟩
      refine x_aloadn hP 148 0 dX6_told_147 rfl rfl mm0 ?_
      obtain ⟨v4, hc, h⟩ := h
      refine x_cv hP 151 [] [] dX6_told_148 rfl (hG.O_166) (by decide) rfl ml_RX6_114 im_X6_can se_X6_can it_RX6 pp_X6_can bd_X6_can rfl rfl ⟨Nat.le_refl _, Nat.le_refl _⟩ (by simp [pC]) hc ?_
      exact x_iret hP dX6_told_151 ⟨Nat.le_refl _, Nat.le_refl _⟩ h
    · have h := hc7 e
      refine ⟨151, 152, by rw [e]; rfl, rfl, ?_⟩
      refine x_aloadn hP 153 0 dX6_told_152 rfl rfl mm0 ?_
      refine x_getr hP 156 167 dX6_told_153 rfl fl_RX6_7 (hG.O_166) (by decide) rfl (hG.R_166_0) ?_
      refine x_iconst hP 157 dX6_told_156 rfl ?_
      refine x_iald hP 158 dX6_told_157 rfl (hG.A_167) (by decide) (by decide) ?_
      exact x_iret hP dX6_told_158 ⟨Nat.le_refl _, Nat.le_refl _⟩ h
    · have h := hc8 e
      refine ⟨158, 159, by rw [e]; rfl, rfl, ?_⟩
      refine x_aloadn hP 160 0 dX6_told_159 rfl rfl mm0 ?_
      refine x_getr hP 163 167 dX6_told_160 rfl fl_RX6_7 (hG.O_166) (by decide) rfl (hG.R_166_0) ?_
      refine x_iconst hP 164 dX6_told_163 rfl ?_
      refine x_iald hP 165 dX6_told_164 rfl (hG.A_167) (by decide) (by decide) ?_
      exact x_iret hP dX6_told_165 ⟨Nat.le_refl _, Nat.le_refl _⟩ h
    · have h := hc9 e
      refine ⟨165, 166, by rw [e]; rfl, rfl, ?_⟩
      refine x_aloadn hP 167 0 dX6_told_166 rfl rfl mm0 ?_
      refine x_getr hP 170 167 dX6_told_167 rfl fl_RX6_7 (hG.O_166) (by decide) rfl (hG.R_166_0) ?_
      refine x_bipush hP 172 dX6_told_170 rfl (by decide) ?_
      refine x_iald hP 173 dX6_told_172 rfl (hG.A_167) (by decide) (by decide) ?_
      exact x_iret hP dX6_told_173 ⟨Nat.le_refl _, Nat.le_refl _⟩ h
    · have h := hc10 e
      refine ⟨173, 174, by rw [e]; rfl, rfl, ?_⟩
      refine x_aloadn hP 175 0 dX6_told_174 rfl rfl mm0 ?_
      obtain ⟨v5, hc, h⟩ := h
      refine x_cv hP 178 [] [] dX6_told_175 rfl (hG.O_166) (by decide) rfl ml_RX6_117 im_X6_joints se_X6_joints it_RX6 pp_X6_joints bd_X6_joints rfl rfl ⟨Nat.le_refl _, Nat.le_refl _⟩ (by simp [pC]) hc ?_
      exact x_iret hP dX6_told_178 ⟨Nat.le_refl _, Nat.le_refl _⟩ h
    · have h := hc11 e
      refine ⟨178, 179, by rw [e]; rfl, rfl, ?_⟩
      refine x_aloadn hP 180 0 dX6_told_179 rfl rfl mm0 ?_
      refine x_iconst hP 181 dX6_told_180 rfl ?_
      refine x_iconst hP 182 dX6_told_181 rfl ?_
      obtain ⟨v6, hc, h⟩ := h
      refine x_cv hP 185 [vI 0, vI 0] [] dX6_told_182 rfl (hG.O_166) (by decide) rfl ml_RX6_82 im_X6_harm se_X6_harm it_RX6 pp_X6_harm bd_X6_harm rfl rfl ⟨Nat.le_refl _, Nat.le_refl _⟩ (by simp [pC]) hc ?_
      exact x_iret hP dX6_told_185 ⟨Nat.le_refl _, Nat.le_refl _⟩ h
    · have h := hc12 e
      refine ⟨185, 186, by rw [e]; rfl, rfl, ?_⟩
      refine x_aloadn hP 187 0 dX6_told_186 rfl rfl mm0 ?_
      obtain ⟨v7, hc, h⟩ := h
      refine x_cv hP 190 [] [] dX6_told_187 rfl (hG.O_166) (by decide) rfl ml_RX6_120 im_X6_firstToSet se_X6_firstToSet it_RX6 pp_X6_firstToSet bd_X6_firstToSet rfl rfl ⟨Nat.le_refl _, Nat.le_refl _⟩ (by simp [pC]) hc ?_
      exact x_iret hP dX6_told_190 ⟨Nat.le_refl _, Nat.le_refl _⟩ h
    · have h := hc13 e
      refine ⟨190, 191, by rw [e]; rfl, rfl, ?_⟩
      refine x_aloadn hP 192 0 dX6_told_191 rfl rfl mm0 ?_
      refine x_iloadn hP 193 1 dX6_told_192 rfl rfl mm1 ?_
      obtain ⟨v8, s9, hc, h⟩ := h
      refine x_cv hP 196 [vI a] [] dX6_told_193 rfl (hG.O_166) (by decide) rfl ml_RX6_123 im_X6_ofBest se_X6_ofBest it_RX6 pp_X6_ofBest bd_X6_ofBest rfl rfl ⟨Nat.le_refl _, Nat.le_refl _⟩ (by simp [pC]) hc ?_
      exact x_iret hP dX6_told_196 ⟨Nat.le_refl _, Nat.le_refl _⟩ h
    · have h := hc14 e
      refine ⟨190, 191, by rw [e]; rfl, rfl, ?_⟩
      refine x_aloadn hP 192 0 dX6_told_191 rfl rfl mm0 ?_
      refine x_iloadn hP 193 1 dX6_told_192 rfl rfl mm1 ?_
      obtain ⟨v10, s11, hc, h⟩ := h
      refine x_cv hP 196 [vI a] [] dX6_told_193 rfl (hG.O_166) (by decide) rfl ml_RX6_123 im_X6_ofBest se_X6_ofBest it_RX6 pp_X6_ofBest bd_X6_ofBest rfl rfl ⟨Nat.le_refl _, Nat.le_refl _⟩ (by simp [pC]) hc ?_
      exact x_iret hP dX6_told_196 ⟨Nat.le_refl _, Nat.le_refl _⟩ h
    · have h := hc15 e
      refine ⟨196, 197, by rw [e]; rfl, rfl, ?_⟩
      refine x_aloadn hP 198 0 dX6_told_197 rfl rfl mm0 ?_
      obtain ⟨v12, s13, hc, h⟩ := h
      refine x_cv hP 201 [] [] dX6_told_198 rfl (hG.O_166) (by decide) rfl ml_RX6_126 im_X6_mayWait se_X6_mayWait it_RX6 pp_X6_mayWait bd_X6_mayWait rfl rfl ⟨Nat.le_refl _, Nat.le_refl _⟩ (by simp [pC]) hc ?_
      exact x_iret hP dX6_told_201 ⟨Nat.le_refl _, Nat.le_refl _⟩ h
    · have h := hc16 e
      refine ⟨201, 202, by rw [e]; rfl, rfl, ?_⟩
      refine x_aloadn hP 203 0 dX6_told_202 rfl rfl mm0 ?_
      refine x_iconst hP 204 dX6_told_203 rfl ?_
      refine x_iconst hP 205 dX6_told_204 rfl ?_
      obtain ⟨v14, hc, h⟩ := h
      refine x_cv hP 208 [vI 0, vI 1] [] dX6_told_205 rfl (hG.O_166) (by decide) rfl ml_RX6_82 im_X6_harm se_X6_harm it_RX6 pp_X6_harm bd_X6_harm rfl rfl ⟨Nat.le_refl _, Nat.le_refl _⟩ (by simp [pC]) hc ?_
      exact x_iret hP dX6_told_208 ⟨Nat.le_refl _, Nat.le_refl _⟩ h
    · have h := hc17 e
      refine ⟨208, 209, by rw [e]; rfl, rfl, ?_⟩
      refine x_aloadn hP 210 0 dX6_told_209 rfl rfl mm0 ?_
      refine x_geti hP 213 dX6_told_210 rfl fl_RX6_108 (hG.O_166) (by decide) rfl ?_
      exact x_iret hP dX6_told_213 ⟨Nat.le_refl _, Nat.le_refl _⟩ h
    · have h := hc18 e
      refine ⟨213, 214, by rw [e]; rfl, rfl, ?_⟩
      refine x_aloadn hP 215 0 dX6_told_214 rfl rfl mm0 ?_
      obtain ⟨v15, hc, h⟩ := h
      refine x_cv hP 218 [] [] dX6_told_215 rfl (hG.O_166) (by decide) rfl ml_RX6_129 im_X6_wrong se_X6_wrong it_RX6 pp_X6_wrong bd_X6_wrong rfl rfl ⟨Nat.le_refl _, Nat.le_refl _⟩ (by simp [pC]) hc ?_
      exact x_iret hP dX6_told_218 ⟨Nat.le_refl _, Nat.le_refl _⟩ h
    · have h := hc19 e
      refine ⟨218, 219, by rw [e]; rfl, rfl, ?_⟩
      refine x_aloadn hP 220 0 dX6_told_219 rfl rfl mm0 ?_
      refine x_geti hP 223 dX6_told_220 rfl fl_RX6_39 (hG.O_166) (by decide) rfl ?_
      exact x_iret hP dX6_told_223 ⟨Nat.le_refl _, Nat.le_refl _⟩ h
theorem k_X6_harmBehind_0 {d : Nat} {Q : pQ} {P : pP} {g : pG} {σ : pM} (hP : Clo (pCall d) yX6_harmBehind cX6_harmBehind (some .int) 2 0 0 Q P) (a : Int) (hG : gAll g) (h : ∃ (s1 : pM), Ca d yX6_copy [vR (some 166), vI 0, vI 52] g σ [] g s1 ∧ ∃ (v2 : Int) (s3 : pM), Ca d yX6_pours [vR (some 166), vI 52, vI a] g s1 [vI v2] g s3 ∧ iR v2 ∧ (v2 = 0 → Q [vI ((-1))] g s3) ∧ (¬ (v2 = 0) → ∃ (v4 : Int), Ca d yX6_harm [vR (some 166), vI 52, vI 0] g s3 [vI v4] g s3 ∧ Q [vI v4] g s3)) : P 0 [(0, vR (some 166)), (1, vI a)] [] g σ 0 0 := by
  refine x_aloadn hP 1 0 dX6_harmBehind_0 rfl rfl mm0 ?_
  refine x_iconst hP 2 dX6_harmBehind_1 rfl ?_
  refine x_bipush hP 4 dX6_harmBehind_2 rfl (by decide) ?_
  obtain ⟨s1, hc, h⟩ := h
  refine x_cv hP 7 [vI 0, vI 52] [] dX6_harmBehind_4 rfl (hG.O_166) (by decide) rfl ml_RX6_43 im_X6_copy se_X6_copy it_RX6 pp_X6_copy bd_X6_copy rfl rfl ⟨Nat.le_refl _, Nat.le_refl _⟩ (by simp [pC]) hc ?_
  refine x_aloadn hP 8 0 dX6_harmBehind_7 rfl rfl mm0 ?_
  refine x_bipush hP 10 dX6_harmBehind_8 rfl (by decide) ?_
  refine x_iloadn hP 11 1 dX6_harmBehind_10 rfl rfl mm1 ?_
  obtain ⟨v2, s3, hc, h⟩ := h
  refine x_cv hP 14 [vI 52, vI a] [] dX6_harmBehind_11 rfl (hG.O_166) (by decide) rfl ml_RX6_99 im_X6_pours se_X6_pours it_RX6 pp_X6_pours bd_X6_pours rfl rfl ⟨Nat.le_refl _, Nat.le_refl _⟩ (by simp [pC]) hc ?_
  obtain ⟨hs1, h⟩ := h
  refine x_ifc hP 17 27 (v2 = 0) dX6_harmBehind_14 rfl rfl hs1 rfl (fun hbr => ?_) (fun hbr => ?_)
  · replace h := h.1 hbr
    refine x_iconst hP 28 dX6_harmBehind_27 rfl ?_
    exact x_iret hP dX6_harmBehind_28 ⟨Nat.le_refl _, Nat.le_refl _⟩ h
  · replace h := h.2 hbr
    refine x_aloadn hP 18 0 dX6_harmBehind_17 rfl rfl mm0 ?_
    refine x_bipush hP 20 dX6_harmBehind_18 rfl (by decide) ?_
    refine x_iconst hP 21 dX6_harmBehind_20 rfl ?_
    obtain ⟨v4, hc, h⟩ := h
    refine x_cv hP 24 [vI 52, vI 0] [] dX6_harmBehind_21 rfl (hG.O_166) (by decide) rfl ml_RX6_82 im_X6_harm se_X6_harm it_RX6 pp_X6_harm bd_X6_harm rfl rfl ⟨Nat.le_refl _, Nat.le_refl _⟩ (by simp [pC]) hc ?_
    refine x_goto hP 28 dX6_harmBehind_24 rfl ?_
    exact x_iret hP dX6_harmBehind_28 ⟨Nat.le_refl _, Nat.le_refl _⟩ h
theorem k_X6_cell_0 {d : Nat} {Q : pQ} {P : pP} {g : pG} {σ : pM} (hP : Clo (pCall d) yX6_cell cX6_cell (some .int) 3 0 0 Q P) (a : Int) (b : Int) (hG : gAll g) (h : ∃ (v1 : Int), Ca d yX6_isCell [vR (some 166), vI a] g σ [vI v1] g σ ∧ iR v1 ∧ (¬ v1 = 0 → iR b ∧ ((b < 0 ∨ 4 < b) → Q [vI ((-1000000002))] g σ) ∧ (b = 0 → (0 ≤ (25 + a) ∧ (25 + a) < 1300) ∧ Q [vI (σ 167 (Int.toNat (25 + a)))] g σ) ∧ (b = 1 → (0 ≤ (34 + a) ∧ (34 + a) < 1300) ∧ Q [vI (σ 167 (Int.toNat (34 + a)))] g σ) ∧ (b = 2 → (0 ≤ (43 + a) ∧ (43 + a) < 1300) ∧ Q [vI (σ 167 (Int.toNat (43 + a)))] g σ) ∧ (b = 3 → ∃ (v2 : Int), Ca d yX6_beginOf [vR (some 166), vI 0, vI a] g σ [vI v2] g σ ∧ Q [vI v2] g σ) ∧ (b = 4 → ∃ (v3 : Int) (s4 : pM), Ca d yX6_harmBehind [vR (some 166), vI a] g σ [vI v3] g s4 ∧ Q [vI v3] g s4)) ∧ (¬ (¬ v1 = 0) → Q [vI ((-1000000001))] g σ)) : P 0 [(0, vR (some 166)), (1, vI a), (2, vI b)] [] g σ 0 0 := by
  refine x_aloadn hP 1 0 dX6_cell_0 rfl rfl mm0 ?_
  refine x_iloadn hP 2 1 dX6_cell_1 rfl rfl mm1 ?_
  obtain ⟨v1, hc, h⟩ := h
  refine x_cv hP 5 [vI a] [] dX6_cell_2 rfl (hG.O_166) (by decide) rfl ml_RX6_133 im_X6_isCell se_X6_isCell it_RX6 pp_X6_isCell bd_X6_isCell rfl rfl ⟨Nat.le_refl _, Nat.le_refl _⟩ (by simp [pC]) hc ?_
  obtain ⟨hs1, h⟩ := h
  refine x_ifc hP 8 11 (¬ v1 = 0) dX6_cell_5 rfl rfl hs1 rfl (fun hbr => ?_) (fun hbr => ?_)
  · replace h := h.1 hbr
    refine x_iloadn hP 12 2 dX6_cell_11 rfl rfl mm2 ?_
    obtain ⟨hs, hd, hc0, hc1, hc2, hc3, hc4⟩ := h
    refine x_tsw hP 91 dX6_cell_12 hs rfl (fun hbr => ?_) (fun hbr => ?_)
    · have h := hd hbr
      refine x_ldc hP 93 dX6_cell_91 rfl kc_RX6_132 ?_
      exact x_iret hP dX6_cell_93 ⟨Nat.le_refl _, Nat.le_refl _⟩ h
    · have hall : b = 0 ∨ b = 1 ∨ b = 2 ∨ b = 3 ∨ b = 4 := by omega
      rcases hall with e | e | e | e | e
      · have h := hc0 e
        refine ⟨36, 48, by rw [e]; rfl, rfl, ?_⟩
        refine x_aloadn hP 49 0 dX6_cell_48 rfl rfl mm0 ?_
        refine x_getr hP 52 167 dX6_cell_49 rfl fl_RX6_7 (hG.O_166) (by decide) rfl (hG.R_166_0) ?_
        refine x_bipush hP 54 dX6_cell_52 rfl (by decide) ?_
        refine x_iloadn hP 55 1 dX6_cell_54 rfl rfl mm1 ?_
        refine x_iadd hP 56 dX6_cell_55 rfl ?_
        obtain ⟨hs, h⟩ := h
        refine x_iald hP 57 dX6_cell_56 rfl (hG.A_167) (by decide) hs ?_
        exact x_iret hP dX6_cell_57 ⟨Nat.le_refl _, Nat.le_refl _⟩ h
      · have h := hc1 e
        refine ⟨46, 58, by rw [e]; rfl, rfl, ?_⟩
        refine x_aloadn hP 59 0 dX6_cell_58 rfl rfl mm0 ?_
        refine x_getr hP 62 167 dX6_cell_59 rfl fl_RX6_7 (hG.O_166) (by decide) rfl (hG.R_166_0) ?_
        refine x_bipush hP 64 dX6_cell_62 rfl (by decide) ?_
        refine x_iloadn hP 65 1 dX6_cell_64 rfl rfl mm1 ?_
        refine x_iadd hP 66 dX6_cell_65 rfl ?_
        obtain ⟨hs, h⟩ := h
        refine x_iald hP 67 dX6_cell_66 rfl (hG.A_167) (by decide) hs ?_
        exact x_iret hP dX6_cell_67 ⟨Nat.le_refl _, Nat.le_refl _⟩ h
      · have h := hc2 e
        refine ⟨56, 68, by rw [e]; rfl, rfl, ?_⟩
        refine x_aloadn hP 69 0 dX6_cell_68 rfl rfl mm0 ?_
        refine x_getr hP 72 167 dX6_cell_69 rfl fl_RX6_7 (hG.O_166) (by decide) rfl (hG.R_166_0) ?_
        refine x_bipush hP 74 dX6_cell_72 rfl (by decide) ?_
        refine x_iloadn hP 75 1 dX6_cell_74 rfl rfl mm1 ?_
        refine x_iadd hP 76 dX6_cell_75 rfl ?_
        obtain ⟨hs, h⟩ := h
        refine x_iald hP 77 dX6_cell_76 rfl (hG.A_167) (by decide) hs ?_
        exact x_iret hP dX6_cell_77 ⟨Nat.le_refl _, Nat.le_refl _⟩ h
      · have h := hc3 e
        refine ⟨66, 78, by rw [e]; rfl, rfl, ?_⟩
        refine x_aloadn hP 79 0 dX6_cell_78 rfl rfl mm0 ?_
        refine x_iconst hP 80 dX6_cell_79 rfl ?_
        refine x_iloadn hP 81 1 dX6_cell_80 rfl rfl mm1 ?_
        obtain ⟨v2, hc, h⟩ := h
        refine x_cv hP 84 [vI 0, vI a] [] dX6_cell_81 rfl (hG.O_166) (by decide) rfl ml_RX6_67 im_X6_beginOf se_X6_beginOf it_RX6 pp_X6_beginOf bd_X6_beginOf rfl rfl ⟨Nat.le_refl _, Nat.le_refl _⟩ (by simp [pC]) hc ?_
        exact x_iret hP dX6_cell_84 ⟨Nat.le_refl _, Nat.le_refl _⟩ h
      · have h := hc4 e
        refine ⟨73, 85, by rw [e]; rfl, rfl, ?_⟩
        refine x_aloadn hP 86 0 dX6_cell_85 rfl rfl mm0 ?_
        refine x_iloadn hP 87 1 dX6_cell_86 rfl rfl mm1 ?_
        obtain ⟨v3, s4, hc, h⟩ := h
        refine x_cv hP 90 [vI a] [] dX6_cell_87 rfl (hG.O_166) (by decide) rfl ml_RX6_138 im_X6_harmBehind se_X6_harmBehind it_RX6 pp_X6_harmBehind bd_X6_harmBehind rfl rfl ⟨Nat.le_refl _, Nat.le_refl _⟩ (by simp [pC]) hc ?_
        exact x_iret hP dX6_cell_90 ⟨Nat.le_refl _, Nat.le_refl _⟩ h
  · replace h := h.2 hbr
    refine x_ldc hP 10 dX6_cell_8 rfl kc_RX6_137 ?_
    exact x_iret hP dX6_cell_10 ⟨Nat.le_refl _, Nat.le_refl _⟩ h
theorem k_X6_edge_0 {d : Nat} {Q : pQ} {P : pP} {g : pG} {σ : pM} (hP : Clo (pCall d) yX6_edge cX6_edge (some .int) 3 0 0 Q P) (a : Int) (b : Int) (hG : gAll g) (h : ∃ (v1 : Int), Ca d yX6_beyond [vR (some 166), vI 0, vI a] g σ [vI v1] g σ ∧ iR v1 ∧ (¬ v1 = ((-1)) → iR b ∧ ((b < 0 ∨ 2 < b) → Q [vI ((-1000000002))] g σ) ∧ (b = 0 → ∃ (v2 : Int), Ca d yX6_isOpen [vR (some 166), vI 0, vI a] g σ [vI v2] g σ ∧ iR v2 ∧ (v2 = 0 → Q [vI 0] g σ) ∧ (¬ (v2 = 0) → Q [vI 1] g σ)) ∧ (b = 1 → ∃ (v3 : Int), Ca d yX6_isJoint [vR (some 166), vI 0, vI a] g σ [vI v3] g σ ∧ iR v3 ∧ (v3 = 0 → Q [vI 0] g σ) ∧ (¬ (v3 = 0) → Q [vI 1] g σ)) ∧ (b = 2 → ∃ (v4 : Int), Ca d yX6_left [vR (some 166), vI a] g σ [vI v4] g σ ∧ Q [vI v4] g σ)) ∧ (¬ (¬ v1 = ((-1))) → Q [vI ((-1000000001))] g σ)) : P 0 [(0, vR (some 166)), (1, vI a), (2, vI b)] [] g σ 0 0 := by
  refine x_aloadn hP 1 0 dX6_edge_0 rfl rfl mm0 ?_
  refine x_iconst hP 2 dX6_edge_1 rfl ?_
  refine x_iloadn hP 3 1 dX6_edge_2 rfl rfl mm1 ?_
  obtain ⟨v1, hc, h⟩ := h
  refine x_cv hP 6 [vI 0, vI a] [] dX6_edge_3 rfl (hG.O_166) (by decide) rfl ml_RX6_70 im_X6_beyond se_X6_beyond it_RX6 pp_X6_beyond bd_X6_beyond rfl rfl ⟨Nat.le_refl _, Nat.le_refl _⟩ (by simp [pC]) hc ?_
  refine x_iconst hP 7 dX6_edge_6 rfl ?_
  obtain ⟨hs1, h⟩ := h
  refine x_icmp hP 10 13 (¬ v1 = ((-1))) dX6_edge_7 rfl rfl hs1 (by decide) rfl (fun hbr => ?_) (fun hbr => ?_)
  · replace h := h.1 hbr
    refine x_iloadn hP 14 2 dX6_edge_13 rfl rfl mm2 ?_
    obtain ⟨hs, hd, hc0, hc1, hc2⟩ := h
    refine x_tsw hP 76 dX6_edge_14 hs rfl (fun hbr => ?_) (fun hbr => ?_)
    · have h := hd hbr
      refine x_ldc hP 78 dX6_edge_76 rfl kc_RX6_132 ?_
      exact x_iret hP dX6_edge_78 ⟨Nat.le_refl _, Nat.le_refl _⟩ h
    · have hall : b = 0 ∨ b = 1 ∨ b = 2 := by omega
      rcases hall with e | e | e
      · have h := hc0 e
        refine ⟨26, 40, by rw [e]; rfl, rfl, ?_⟩
        refine x_aloadn hP 41 0 dX6_edge_40 rfl rfl mm0 ?_
        refine x_iconst hP 42 dX6_edge_41 rfl ?_
        refine x_iloadn hP 43 1 dX6_edge_42 rfl rfl mm1 ?_
        obtain ⟨v2, hc, h⟩ := h
        refine x_cv hP 46 [vI 0, vI a] [] dX6_edge_43 rfl (hG.O_166) (by decide) rfl ml_RX6_76 im_X6_isOpen se_X6_isOpen it_RX6 pp_X6_isOpen bd_X6_isOpen rfl rfl ⟨Nat.le_refl _, Nat.le_refl _⟩ (by simp [pC]) hc ?_
        obtain ⟨hs1, h⟩ := h
        refine x_ifc hP 49 53 (v2 = 0) dX6_edge_46 rfl rfl hs1 rfl (fun hbr => ?_) (fun hbr => ?_)
        · replace h := h.1 hbr
          refine x_iconst hP 54 dX6_edge_53 rfl ?_
          exact x_iret hP dX6_edge_54 ⟨Nat.le_refl _, Nat.le_refl _⟩ h
        · replace h := h.2 hbr
          refine x_iconst hP 50 dX6_edge_49 rfl ?_
          refine x_goto hP 54 dX6_edge_50 rfl ?_
          exact x_iret hP dX6_edge_54 ⟨Nat.le_refl _, Nat.le_refl _⟩ h
      · have h := hc1 e
        refine ⟨41, 55, by rw [e]; rfl, rfl, ?_⟩
        refine x_aloadn hP 56 0 dX6_edge_55 rfl rfl mm0 ?_
        refine x_iconst hP 57 dX6_edge_56 rfl ?_
        refine x_iloadn hP 58 1 dX6_edge_57 rfl rfl mm1 ?_
        obtain ⟨v3, hc, h⟩ := h
        refine x_cv hP 61 [vI 0, vI a] [] dX6_edge_58 rfl (hG.O_166) (by decide) rfl ml_RX6_73 im_X6_isJoint se_X6_isJoint it_RX6 pp_X6_isJoint bd_X6_isJoint rfl rfl ⟨Nat.le_refl _, Nat.le_refl _⟩ (by simp [pC]) hc ?_
        obtain ⟨hs1, h⟩ := h
        refine x_ifc hP 64 68 (v3 = 0) dX6_edge_61 rfl rfl hs1 rfl (fun hbr => ?_) (fun hbr => ?_)
        · replace h := h.1 hbr
          refine x_iconst hP 69 dX6_edge_68 rfl ?_
          exact x_iret hP dX6_edge_69 ⟨Nat.le_refl _, Nat.le_refl _⟩ h
        · replace h := h.2 hbr
          refine x_iconst hP 65 dX6_edge_64 rfl ?_
          refine x_goto hP 69 dX6_edge_65 rfl ?_
          exact x_iret hP dX6_edge_69 ⟨Nat.le_refl _, Nat.le_refl _⟩ h
      · have h := hc2 e
        refine ⟨56, 70, by rw [e]; rfl, rfl, ?_⟩
        refine x_aloadn hP 71 0 dX6_edge_70 rfl rfl mm0 ?_
        refine x_iloadn hP 72 1 dX6_edge_71 rfl rfl mm1 ?_
        obtain ⟨v4, hc, h⟩ := h
        refine x_cv hP 75 [vI a] [] dX6_edge_72 rfl (hG.O_166) (by decide) rfl ml_RX6_79 im_X6_left se_X6_left it_RX6 pp_X6_left bd_X6_left rfl rfl ⟨Nat.le_refl _, Nat.le_refl _⟩ (by simp [pC]) hc ?_
        exact x_iret hP dX6_edge_75 ⟨Nat.le_refl _, Nat.le_refl _⟩ h
  · replace h := h.2 hbr
    refine x_ldc hP 12 dX6_edge_10 rfl kc_RX6_137 ?_
    exact x_iret hP dX6_edge_12 ⟨Nat.le_refl _, Nat.le_refl _⟩ h
theorem k_X6_truckAt_0 {d : Nat} {Q : pQ} {P : pP} {g : pG} {σ : pM} (hP : Clo (pCall d) yX6_truckAt cX6_truckAt (some .int) 3 0 0 Q P) (a : Int) (b : Int) (hG : gAll g) (h : ∃ (v1 : Int), Ca d yX6_isTruck [vR (some 166), vI a] g σ [vI v1] g σ ∧ iR v1 ∧ (¬ v1 = 0 → iR b ∧ ((b < 0 ∨ 2 < b) → Q [vI ((-1000000002))] g σ) ∧ (b = 0 → (0 ≤ (7 + a) ∧ (7 + a) < 1300) ∧ Q [vI (σ 167 (Int.toNat (7 + a)))] g σ) ∧ (b = 1 → (0 ≤ (16 + a) ∧ (16 + a) < 1300) ∧ Q [vI (σ 167 (Int.toNat (16 + a)))] g σ) ∧ (b = 2 → ∃ (v2 : Int) (s3 : pM), Ca d yX6_mayBeLate [vR (some 166), vI a] g σ [vI v2] g s3 ∧ Q [vI v2] g s3)) ∧ (¬ (¬ v1 = 0) → Q [vI ((-1000000001))] g σ)) : P 0 [(0, vR (some 166)), (1, vI a), (2, vI b)] [] g σ 0 0 := by
  refine x_aloadn hP 1 0 dX6_truckAt_0 rfl rfl mm0 ?_
  refine x_iloadn hP 2 1 dX6_truckAt_1 rfl rfl mm1 ?_
  obtain ⟨v1, hc, h⟩ := h
  refine x_cv hP 5 [vI a] [] dX6_truckAt_2 rfl (hG.O_166) (by decide) rfl ml_RX6_141 im_X6_isTruck se_X6_isTruck it_RX6 pp_X6_isTruck bd_X6_isTruck rfl rfl ⟨Nat.le_refl _, Nat.le_refl _⟩ (by simp [pC]) hc ?_
  obtain ⟨hs1, h⟩ := h
  refine x_ifc hP 8 11 (¬ v1 = 0) dX6_truckAt_5 rfl rfl hs1 rfl (fun hbr => ?_) (fun hbr => ?_)
  · replace h := h.1 hbr
    refine x_iloadn hP 12 2 dX6_truckAt_11 rfl rfl mm2 ?_
    obtain ⟨hs, hd, hc0, hc1, hc2⟩ := h
    refine x_tsw hP 66 dX6_truckAt_12 hs rfl (fun hbr => ?_) (fun hbr => ?_)
    · have h := hd hbr
      refine x_ldc hP 68 dX6_truckAt_66 rfl kc_RX6_132 ?_
      exact x_iret hP dX6_truckAt_68 ⟨Nat.le_refl _, Nat.le_refl _⟩ h
    · have hall : b = 0 ∨ b = 1 ∨ b = 2 := by omega
      rcases hall with e | e | e
      · have h := hc0 e
        refine ⟨28, 40, by rw [e]; rfl, rfl, ?_⟩
        refine x_aloadn hP 41 0 dX6_truckAt_40 rfl rfl mm0 ?_
        refine x_getr hP 44 167 dX6_truckAt_41 rfl fl_RX6_7 (hG.O_166) (by decide) rfl (hG.R_166_0) ?_
        refine x_bipush hP 46 dX6_truckAt_44 rfl (by decide) ?_
        refine x_iloadn hP 47 1 dX6_truckAt_46 rfl rfl mm1 ?_
        refine x_iadd hP 48 dX6_truckAt_47 rfl ?_
        obtain ⟨hs, h⟩ := h
        refine x_iald hP 49 dX6_truckAt_48 rfl (hG.A_167) (by decide) hs ?_
        exact x_iret hP dX6_truckAt_49 ⟨Nat.le_refl _, Nat.le_refl _⟩ h
      · have h := hc1 e
        refine ⟨38, 50, by rw [e]; rfl, rfl, ?_⟩
        refine x_aloadn hP 51 0 dX6_truckAt_50 rfl rfl mm0 ?_
        refine x_getr hP 54 167 dX6_truckAt_51 rfl fl_RX6_7 (hG.O_166) (by decide) rfl (hG.R_166_0) ?_
        refine x_bipush hP 56 dX6_truckAt_54 rfl (by decide) ?_
        refine x_iloadn hP 57 1 dX6_truckAt_56 rfl rfl mm1 ?_
        refine x_iadd hP 58 dX6_truckAt_57 rfl ?_
        obtain ⟨hs, h⟩ := h
        refine x_iald hP 59 dX6_truckAt_58 rfl (hG.A_167) (by decide) hs ?_
        exact x_iret hP dX6_truckAt_59 ⟨Nat.le_refl _, Nat.le_refl _⟩ h
      · have h := hc2 e
        refine ⟨48, 60, by rw [e]; rfl, rfl, ?_⟩
        refine x_aloadn hP 61 0 dX6_truckAt_60 rfl rfl mm0 ?_
        refine x_iloadn hP 62 1 dX6_truckAt_61 rfl rfl mm1 ?_
        obtain ⟨v2, s3, hc, h⟩ := h
        refine x_cv hP 65 [vI a] [] dX6_truckAt_62 rfl (hG.O_166) (by decide) rfl ml_RX6_144 im_X6_mayBeLate se_X6_mayBeLate it_RX6 pp_X6_mayBeLate bd_X6_mayBeLate rfl rfl ⟨Nat.le_refl _, Nat.le_refl _⟩ (by simp [pC]) hc ?_
        exact x_iret hP dX6_truckAt_65 ⟨Nat.le_refl _, Nat.le_refl _⟩ h
  · replace h := h.2 hbr
    refine x_ldc hP 10 dX6_truckAt_8 rfl kc_RX6_137 ?_
    exact x_iret hP dX6_truckAt_10 ⟨Nat.le_refl _, Nat.le_refl _⟩ h
theorem k_X6_build_0 {d : Nat} {Q : pQ} {P : pP} {g : pG} {σ : pM} (hP : Clo (pCall d) yX6_build cX6_build (some .int) 4 0 0 Q P) (a : Int) (b : Int) (hG : gAll g) (h : iR a ∧ ∃ (v1 : Int), Ca d yX6_in [vJ a, vJ 1, vJ 3] g σ [vI v1] g σ ∧ iR v1 ∧ (v1 = 0 → Q [vI ((-1000000002))] g σ) ∧ (¬ (v1 = 0) → iR b ∧ ∃ (v2 : Int), Ca d yX6_in [vJ b, vJ 1, vJ 3] g σ [vI v2] g σ ∧ iR v2 ∧ (¬ v2 = 0 → ∃ (v3 : Int), Ca d yX6_poured [vR (some 166)] g σ [vI v3] g σ ∧ ∃ (v4 : Int), Ca d yX6_ones [vI v3] g σ [vI v4] g σ ∧ ∃ (s5 : pM), Ca d yX6_minds [vR (some 166)] g σ [] g s5 ∧ ∃ (s6 : pM), Ca d yX6_builds [vR (some 166), vI a, vI b] g s5 [] g s6 ∧ Q [vI v4] g s6) ∧ (¬ (¬ v2 = 0) → Q [vI ((-1000000002))] g σ))) : P 0 [(0, vR (some 166)), (1, vI a), (2, vI b)] [] g σ 0 0 := by
  refine x_iloadn hP 1 1 dX6_build_0 rfl rfl mm1 ?_
  obtain ⟨hs, h⟩ := h
  refine x_i2l hP 2 dX6_build_1 rfl hs ?_
  refine x_lconst hP 3 dX6_build_2 rfl ?_
  refine x_ldc2 hP 6 dX6_build_3 rfl kl_RX6_147 ?_
  obtain ⟨v1, hc, h⟩ := h
  refine x_cs hP 9 [vJ a, vJ 1, vJ 3] [] dX6_build_6 rfl ml_RX6_50 sm_X6_in it_RX6 pp_X6_in bd_X6_in rfl rfl ⟨Nat.le_refl _, Nat.le_refl _⟩ (by simp [pC]) hc ?_
  obtain ⟨hs1, h⟩ := h
  refine x_ifc hP 12 24 (v1 = 0) dX6_build_9 rfl rfl hs1 rfl (fun hbr => ?_) (fun hbr => ?_)
  · replace h := h.1 hbr
    refine x_ldc hP 26 dX6_build_24 rfl kc_RX6_132 ?_
    exact x_iret hP dX6_build_26 ⟨Nat.le_refl _, Nat.le_refl _⟩ h
  · replace h := h.2 hbr
    refine x_iloadn hP 13 2 dX6_build_12 rfl rfl mm2 ?_
    obtain ⟨hs, h⟩ := h
    refine x_i2l hP 14 dX6_build_13 rfl hs ?_
    refine x_lconst hP 15 dX6_build_14 rfl ?_
    refine x_ldc2 hP 18 dX6_build_15 rfl kl_RX6_147 ?_
    obtain ⟨v2, hc, h⟩ := h
    refine x_cs hP 21 [vJ b, vJ 1, vJ 3] [] dX6_build_18 rfl ml_RX6_50 sm_X6_in it_RX6 pp_X6_in bd_X6_in rfl rfl ⟨Nat.le_refl _, Nat.le_refl _⟩ (by simp [pC]) hc ?_
    obtain ⟨hs1, h⟩ := h
    refine x_ifc hP 24 27 (¬ v2 = 0) dX6_build_21 rfl rfl hs1 rfl (fun hbr => ?_) (fun hbr => ?_)
    · replace h := h.1 hbr
      refine x_aloadn hP 28 0 dX6_build_27 rfl rfl mm0 ?_
      obtain ⟨v3, hc, h⟩ := h
      refine x_cv hP 31 [] [] dX6_build_28 rfl (hG.O_166) (by decide) rfl ml_RX6_111 im_X6_poured se_X6_poured it_RX6 pp_X6_poured bd_X6_poured rfl rfl ⟨Nat.le_refl _, Nat.le_refl _⟩ (by simp [pC]) hc ?_
      obtain ⟨v4, hc, h⟩ := h
      refine x_cs hP 34 [vI v3] [] dX6_build_31 rfl ml_RX6_149 sm_X6_ones it_RX6 pp_X6_ones bd_X6_ones rfl rfl ⟨Nat.le_refl _, Nat.le_refl _⟩ (by simp [pC]) hc ?_
      refine x_istoren hP 35 3 [(0, vR (some 166)), (1, vI a), (2, vI b), (3, vI v4)] dX6_build_34 rfl rfl (by decide) rfl rfl ?_
      refine x_aloadn hP 36 0 dX6_build_35 rfl rfl mm0 ?_
      obtain ⟨s5, hc, h⟩ := h
      refine x_cv hP 39 [] [] dX6_build_36 rfl (hG.O_166) (by decide) rfl ml_RX6_152 im_X6_minds se_X6_minds it_RX6 pp_X6_minds bd_X6_minds rfl rfl ⟨Nat.le_refl _, Nat.le_refl _⟩ (by simp [pC]) hc ?_
      refine x_aloadn hP 40 0 dX6_build_39 rfl rfl mm0 ?_
      refine x_iloadn hP 41 1 dX6_build_40 rfl rfl mm1 ?_
      refine x_iloadn hP 42 2 dX6_build_41 rfl rfl mm2 ?_
      obtain ⟨s6, hc, h⟩ := h
      refine x_cv hP 45 [vI a, vI b] [] dX6_build_42 rfl (hG.O_166) (by decide) rfl ml_RX6_35 im_X6_builds se_X6_builds it_RX6 pp_X6_builds bd_X6_builds rfl rfl ⟨Nat.le_refl _, Nat.le_refl _⟩ (by simp [pC]) hc ?_
      refine x_iloadn hP 46 3 dX6_build_45 rfl rfl mm3 ?_
      exact x_iret hP dX6_build_46 ⟨Nat.le_refl _, Nat.le_refl _⟩ h
    · replace h := h.2 hbr
      refine x_ldc hP 26 dX6_build_24 rfl kc_RX6_132 ?_
      exact x_iret hP dX6_build_26 ⟨Nat.le_refl _, Nat.le_refl _⟩ h
theorem k_X6_comes_0 {d : Nat} {Q : pQ} {P : pP} {g : pG} {σ : pM} (hP : Clo (pCall d) yX6_comes cX6_comes none 3 0 0 Q P) (a : Int) (b : Int) (hG : gAll g) (h : (0 ≤ (7 + (σ 167 3)) ∧ (7 + (σ 167 3)) < 1300) ∧ (0 ≤ (16 + ((up2 σ 167 (Int.toNat (7 + (σ 167 3))) a) 167 3)) ∧ (16 + ((up2 σ 167 (Int.toNat (7 + (σ 167 3))) a) 167 3)) < 1300) ∧ Q [] g (up2 (up2 (up2 σ 167 (Int.toNat (7 + (σ 167 3))) a) 167 (Int.toNat (16 + ((up2 σ 167 (Int.toNat (7 + (σ 167 3))) a) 167 3))) b) 167 3 (((up2 (up2 σ 167 (Int.toNat (7 + (σ 167 3))) a) 167 (Int.toNat (16 + ((up2 σ 167 (Int.toNat (7 + (σ 167 3))) a) 167 3))) b) 167 3) + 1))) : P 0 [(0, vR (some 166)), (1, vI a), (2, vI b)] [] g σ 0 0 := by
  refine x_aloadn hP 1 0 dX6_comes_0 rfl rfl mm0 ?_
  refine x_getr hP 4 167 dX6_comes_1 rfl fl_RX6_7 (hG.O_166) (by decide) rfl (hG.R_166_0) ?_
  refine x_bipush hP 6 dX6_comes_4 rfl (by decide) ?_
  refine x_aloadn hP 7 0 dX6_comes_6 rfl rfl mm0 ?_
  refine x_getr hP 10 167 dX6_comes_7 rfl fl_RX6_7 (hG.O_166) (by decide) rfl (hG.R_166_0) ?_
  refine x_iconst hP 11 dX6_comes_10 rfl ?_
  refine x_iald hP 12 dX6_comes_11 rfl (hG.A_167) (by decide) (by decide) ?_
  refine x_iadd hP 13 dX6_comes_12 rfl ?_
  refine x_iloadn hP 14 1 dX6_comes_13 rfl rfl mm1 ?_
  obtain ⟨hs1, h⟩ := h
  refine x_iast hP 15 dX6_comes_14 rfl (hG.A_167) (by decide) hs1 ?_
  refine x_aloadn hP 16 0 dX6_comes_15 rfl rfl mm0 ?_
  refine x_getr hP 19 167 dX6_comes_16 rfl fl_RX6_7 (hG.O_166) (by decide) rfl (hG.R_166_0) ?_
  refine x_bipush hP 21 dX6_comes_19 rfl (by decide) ?_
  refine x_aloadn hP 22 0 dX6_comes_21 rfl rfl mm0 ?_
  refine x_getr hP 25 167 dX6_comes_22 rfl fl_RX6_7 (hG.O_166) (by decide) rfl (hG.R_166_0) ?_
  refine x_iconst hP 26 dX6_comes_25 rfl ?_
  refine x_iald hP 27 dX6_comes_26 rfl (hG.A_167) (by decide) (by decide) ?_
  refine x_iadd hP 28 dX6_comes_27 rfl ?_
  refine x_iloadn hP 29 2 dX6_comes_28 rfl rfl mm2 ?_
  obtain ⟨hs1, h⟩ := h
  refine x_iast hP 30 dX6_comes_29 rfl (hG.A_167) (by decide) hs1 ?_
  refine x_aloadn hP 31 0 dX6_comes_30 rfl rfl mm0 ?_
  refine x_getr hP 34 167 dX6_comes_31 rfl fl_RX6_7 (hG.O_166) (by decide) rfl (hG.R_166_0) ?_
  refine x_iconst hP 35 dX6_comes_34 rfl ?_
  refine x_dup2 hP 36 dX6_comes_35 rfl rfl rfl ?_
  refine x_iald hP 37 dX6_comes_36 rfl (hG.A_167) (by decide) (by decide) ?_
  refine x_iconst hP 38 dX6_comes_37 rfl ?_
  refine x_iadd hP 39 dX6_comes_38 rfl ?_
  refine x_iast hP 40 dX6_comes_39 rfl (hG.A_167) (by decide) (by decide) ?_
  exact x_vret hP dX6_comes_40 ⟨Nat.le_refl _, Nat.le_refl _⟩ h
theorem k_X6_truck_0 {d : Nat} {Q : pQ} {P : pP} {g : pG} {σ : pM} (hP : Clo (pCall d) yX6_truck cX6_truck (some .int) 3 0 0 Q P) (a : Int) (b : Int) (hG : gAll g) (h : iR a ∧ ∃ (v1 : Int), Ca d yX6_in [vJ a, vJ 0, vJ 99] g σ [vI v1] g σ ∧ iR v1 ∧ (v1 = 0 → Q [vI ((-1000000002))] g σ) ∧ (¬ (v1 = 0) → iR b ∧ ∃ (v2 : Int), Ca d yX6_in [vJ b, vJ 1, vJ 4] g σ [vI v2] g σ ∧ iR v2 ∧ (¬ v2 = 0 → iR (σ 167 3) ∧ (¬ (σ 167 3) = 9 → ∃ (s3 : pM), Ca d yX6_minds [vR (some 166)] g σ [] g s3 ∧ ∃ (s4 : pM), Ca d yX6_comes [vR (some 166), vI a, vI b] g s3 [] g s4 ∧ Q [vI ((s4 167 3) - 1)] g s4) ∧ (¬ (¬ (σ 167 3) = 9) → Q [vI ((-1000000004))] g σ)) ∧ (¬ (¬ v2 = 0) → Q [vI ((-1000000002))] g σ))) : P 0 [(0, vR (some 166)), (1, vI a), (2, vI b)] [] g σ 0 0 := by
  refine x_iloadn hP 1 1 dX6_truck_0 rfl rfl mm1 ?_
  obtain ⟨hs, h⟩ := h
  refine x_i2l hP 2 dX6_truck_1 rfl hs ?_
  refine x_lconst hP 3 dX6_truck_2 rfl ?_
  refine x_ldc2 hP 6 dX6_truck_3 rfl kl_RX6_155 ?_
  obtain ⟨v1, hc, h⟩ := h
  refine x_cs hP 9 [vJ a, vJ 0, vJ 99] [] dX6_truck_6 rfl ml_RX6_50 sm_X6_in it_RX6 pp_X6_in bd_X6_in rfl rfl ⟨Nat.le_refl _, Nat.le_refl _⟩ (by simp [pC]) hc ?_
  obtain ⟨hs1, h⟩ := h
  refine x_ifc hP 12 24 (v1 = 0) dX6_truck_9 rfl rfl hs1 rfl (fun hbr => ?_) (fun hbr => ?_)
  · replace h := h.1 hbr
    refine x_ldc hP 26 dX6_truck_24 rfl kc_RX6_132 ?_
    exact x_iret hP dX6_truck_26 ⟨Nat.le_refl _, Nat.le_refl _⟩ h
  · replace h := h.2 hbr
    refine x_iloadn hP 13 2 dX6_truck_12 rfl rfl mm2 ?_
    obtain ⟨hs, h⟩ := h
    refine x_i2l hP 14 dX6_truck_13 rfl hs ?_
    refine x_lconst hP 15 dX6_truck_14 rfl ?_
    refine x_ldc2 hP 18 dX6_truck_15 rfl kl_RX6_157 ?_
    obtain ⟨v2, hc, h⟩ := h
    refine x_cs hP 21 [vJ b, vJ 1, vJ 4] [] dX6_truck_18 rfl ml_RX6_50 sm_X6_in it_RX6 pp_X6_in bd_X6_in rfl rfl ⟨Nat.le_refl _, Nat.le_refl _⟩ (by simp [pC]) hc ?_
    obtain ⟨hs1, h⟩ := h
    refine x_ifc hP 24 27 (¬ v2 = 0) dX6_truck_21 rfl rfl hs1 rfl (fun hbr => ?_) (fun hbr => ?_)
    · replace h := h.1 hbr
      refine x_aloadn hP 28 0 dX6_truck_27 rfl rfl mm0 ?_
      refine x_getr hP 31 167 dX6_truck_28 rfl fl_RX6_7 (hG.O_166) (by decide) rfl (hG.R_166_0) ?_
      refine x_iconst hP 32 dX6_truck_31 rfl ?_
      refine x_iald hP 33 dX6_truck_32 rfl (hG.A_167) (by decide) (by decide) ?_
      refine x_bipush hP 35 dX6_truck_33 rfl (by decide) ?_
      obtain ⟨hs1, h⟩ := h
      refine x_icmp hP 38 41 (¬ (σ 167 3) = 9) dX6_truck_35 rfl rfl hs1 (by decide) rfl (fun hbr => ?_) (fun hbr => ?_)
      · replace h := h.1 hbr
        refine x_aloadn hP 42 0 dX6_truck_41 rfl rfl mm0 ?_
        obtain ⟨s3, hc, h⟩ := h
        refine x_cv hP 45 [] [] dX6_truck_42 rfl (hG.O_166) (by decide) rfl ml_RX6_152 im_X6_minds se_X6_minds it_RX6 pp_X6_minds bd_X6_minds rfl rfl ⟨Nat.le_refl _, Nat.le_refl _⟩ (by simp [pC]) hc ?_
        refine x_aloadn hP 46 0 dX6_truck_45 rfl rfl mm0 ?_
        refine x_iloadn hP 47 1 dX6_truck_46 rfl rfl mm1 ?_
        refine x_iloadn hP 48 2 dX6_truck_47 rfl rfl mm2 ?_
        obtain ⟨s4, hc, h⟩ := h
        refine x_cv hP 51 [vI a, vI b] [] dX6_truck_48 rfl (hG.O_166) (by decide) rfl ml_RX6_160 im_X6_comes se_X6_comes it_RX6 pp_X6_comes bd_X6_comes rfl rfl ⟨Nat.le_refl _, Nat.le_refl _⟩ (by simp [pC]) hc ?_
        refine x_aloadn hP 52 0 dX6_truck_51 rfl rfl mm0 ?_
        refine x_getr hP 55 167 dX6_truck_52 rfl fl_RX6_7 (hG.O_166) (by decide) rfl (hG.R_166_0) ?_
        refine x_iconst hP 56 dX6_truck_55 rfl ?_
        refine x_iald hP 57 dX6_truck_56 rfl (hG.A_167) (by decide) (by decide) ?_
        refine x_iconst hP 58 dX6_truck_57 rfl ?_
        refine x_isub hP 59 dX6_truck_58 rfl ?_
        exact x_iret hP dX6_truck_59 ⟨Nat.le_refl _, Nat.le_refl _⟩ h
      · replace h := h.2 hbr
        refine x_ldc hP 40 dX6_truck_38 rfl kc_RX6_159 ?_
        exact x_iret hP dX6_truck_40 ⟨Nat.le_refl _, Nat.le_refl _⟩ h
    · replace h := h.2 hbr
      refine x_ldc hP 26 dX6_truck_24 rfl kc_RX6_132 ?_
      exact x_iret hP dX6_truck_26 ⟨Nat.le_refl _, Nat.le_refl _⟩ h
theorem k_X6_late_0 {d : Nat} {Q : pQ} {P : pP} {g : pG} {σ : pM} (hP : Clo (pCall d) yX6_late cX6_late (some .int) 3 0 0 Q P) (a : Int) (b : Int) (hG : gAll g) (h : ∃ (v1 : Int), Ca d yX6_isTruck [vR (some 166), vI a] g σ [vI v1] g σ ∧ iR v1 ∧ (¬ v1 = 0 → iR b ∧ ∃ (v2 : Int), Ca d yX6_in [vJ b, vJ ((-99)), vJ 99] g σ [vI v2] g σ ∧ iR v2 ∧ (v2 = 0 → Q [vI ((-1000000002))] g σ) ∧ (¬ (v2 = 0) → (0 ≤ (7 + a) ∧ (7 + a) < 1300) ∧ iR ((σ 167 (Int.toNat (7 + a))) + b) ∧ ∃ (v3 : Int), Ca d yX6_in [vJ ((σ 167 (Int.toNat (7 + a))) + b), vJ 0, vJ 99] g σ [vI v3] g σ ∧ iR v3 ∧ (¬ v3 = 0 → ∃ (s4 : pM), Ca d yX6_copy [vR (some 166), vI 0, vI 104] g σ [] g s4 ∧ (0 ≤ (111 + a) ∧ (111 + a) < 1300) ∧ (0 ≤ (111 + a) ∧ (111 + a) < 1300) ∧ ∃ (v5 : Int), Ca d yX6_brought [vR (some 166), vI 104, vI ((up2 s4 167 (Int.toNat (111 + a)) ((s4 167 (Int.toNat (111 + a))) + b)) 167 2)] g (up2 s4 167 (Int.toNat (111 + a)) ((s4 167 (Int.toNat (111 + a))) + b)) [vI v5] g (up2 s4 167 (Int.toNat (111 + a)) ((s4 167 (Int.toNat (111 + a))) + b)) ∧ ∃ (v6 : Int), Ca d yX6_used [vR (some 166), vI 0] g (up2 s4 167 (Int.toNat (111 + a)) ((s4 167 (Int.toNat (111 + a))) + b)) [vI v6] g (up2 s4 167 (Int.toNat (111 + a)) ((s4 167 (Int.toNat (111 + a))) + b)) ∧ iR v5 ∧ iR v6 ∧ (v6 ≤ v5 → ∃ (s7 : pM), Ca d yX6_minds [vR (some 166)] g (up2 s4 167 (Int.toNat (111 + a)) ((s4 167 (Int.toNat (111 + a))) + b)) [] g s7 ∧ (0 ≤ (7 + a) ∧ (7 + a) < 1300) ∧ (0 ≤ (7 + a) ∧ (7 + a) < 1300) ∧ (0 ≤ (7 + a) ∧ (7 + a) < 1300) ∧ Q [vI ((up2 s7 167 (Int.toNat (7 + a)) ((s7 167 (Int.toNat (7 + a))) + b)) 167 (Int.toNat (7 + a)))] g (up2 s7 167 (Int.toNat (7 + a)) ((s7 167 (Int.toNat (7 + a))) + b))) ∧ (¬ (v6 ≤ v5) → Q [vI ((-1000000003))] g (up2 s4 167 (Int.toNat (111 + a)) ((s4 167 (Int.toNat (111 + a))) + b)))) ∧ (¬ (¬ v3 = 0) → Q [vI ((-1000000002))] g σ))) ∧ (¬ (¬ v1 = 0) → Q [vI ((-1000000001))] g σ)) : P 0 [(0, vR (some 166)), (1, vI a), (2, vI b)] [] g σ 0 0 := by
  refine x_aloadn hP 1 0 dX6_late_0 rfl rfl mm0 ?_
  refine x_iloadn hP 2 1 dX6_late_1 rfl rfl mm1 ?_
  obtain ⟨v1, hc, h⟩ := h
  refine x_cv hP 5 [vI a] [] dX6_late_2 rfl (hG.O_166) (by decide) rfl ml_RX6_141 im_X6_isTruck se_X6_isTruck it_RX6 pp_X6_isTruck bd_X6_isTruck rfl rfl ⟨Nat.le_refl _, Nat.le_refl _⟩ (by simp [pC]) hc ?_
  obtain ⟨hs1, h⟩ := h
  refine x_ifc hP 8 11 (¬ v1 = 0) dX6_late_5 rfl rfl hs1 rfl (fun hbr => ?_) (fun hbr => ?_)
  · replace h := h.1 hbr
    refine x_iloadn hP 12 2 dX6_late_11 rfl rfl mm2 ?_
    obtain ⟨hs, h⟩ := h
    refine x_i2l hP 13 dX6_late_12 rfl hs ?_
    refine x_ldc2 hP 16 dX6_late_13 rfl kl_RX6_163 ?_
    refine x_ldc2 hP 19 dX6_late_16 rfl kl_RX6_155 ?_
    obtain ⟨v2, hc, h⟩ := h
    refine x_cs hP 22 [vJ b, vJ ((-99)), vJ 99] [] dX6_late_19 rfl ml_RX6_50 sm_X6_in it_RX6 pp_X6_in bd_X6_in rfl rfl ⟨Nat.le_refl _, Nat.le_refl _⟩ (by simp [pC]) hc ?_
    obtain ⟨hs1, h⟩ := h
    refine x_ifc hP 25 47 (v2 = 0) dX6_late_22 rfl rfl hs1 rfl (fun hbr => ?_) (fun hbr => ?_)
    · replace h := h.1 hbr
      refine x_ldc hP 49 dX6_late_47 rfl kc_RX6_132 ?_
      exact x_iret hP dX6_late_49 ⟨Nat.le_refl _, Nat.le_refl _⟩ h
    · replace h := h.2 hbr
      refine x_aloadn hP 26 0 dX6_late_25 rfl rfl mm0 ?_
      refine x_getr hP 29 167 dX6_late_26 rfl fl_RX6_7 (hG.O_166) (by decide) rfl (hG.R_166_0) ?_
      refine x_bipush hP 31 dX6_late_29 rfl (by decide) ?_
      refine x_iloadn hP 32 1 dX6_late_31 rfl rfl mm1 ?_
      refine x_iadd hP 33 dX6_late_32 rfl ?_
      obtain ⟨hs, h⟩ := h
      refine x_iald hP 34 dX6_late_33 rfl (hG.A_167) (by decide) hs ?_
      refine x_iloadn hP 35 2 dX6_late_34 rfl rfl mm2 ?_
      refine x_iadd hP 36 dX6_late_35 rfl ?_
      obtain ⟨hs, h⟩ := h
      refine x_i2l hP 37 dX6_late_36 rfl hs ?_
      refine x_lconst hP 38 dX6_late_37 rfl ?_
      refine x_ldc2 hP 41 dX6_late_38 rfl kl_RX6_155 ?_
      obtain ⟨v3, hc, h⟩ := h
      refine x_cs hP 44 [vJ ((σ 167 (Int.toNat (7 + a))) + b), vJ 0, vJ 99] [] dX6_late_41 rfl ml_RX6_50 sm_X6_in it_RX6 pp_X6_in bd_X6_in rfl rfl ⟨Nat.le_refl _, Nat.le_refl _⟩ (by simp [pC]) hc ?_
      obtain ⟨hs1, h⟩ := h
      refine x_ifc hP 47 50 (¬ v3 = 0) dX6_late_44 rfl rfl hs1 rfl (fun hbr => ?_) (fun hbr => ?_)
      · replace h := h.1 hbr
        refine x_aloadn hP 51 0 dX6_late_50 rfl rfl mm0 ?_
        refine x_iconst hP 52 dX6_late_51 rfl ?_
        refine x_bipush hP 54 dX6_late_52 rfl (by decide) ?_
        obtain ⟨s4, hc, h⟩ := h
        refine x_cv hP 57 [vI 0, vI 104] [] dX6_late_54 rfl (hG.O_166) (by decide) rfl ml_RX6_43 im_X6_copy se_X6_copy it_RX6 pp_X6_copy bd_X6_copy rfl rfl ⟨Nat.le_refl _, Nat.le_refl _⟩ (by simp [pC]) hc ?_
        refine x_aloadn hP 58 0 dX6_late_57 rfl rfl mm0 ?_
        refine x_getr hP 61 167 dX6_late_58 rfl fl_RX6_7 (hG.O_166) (by decide) rfl (hG.R_166_0) ?_
        refine x_bipush hP 63 dX6_late_61 rfl (by decide) ?_
        refine x_iloadn hP 64 1 dX6_late_63 rfl rfl mm1 ?_
        refine x_iadd hP 65 dX6_late_64 rfl ?_
        refine x_dup2 hP 66 dX6_late_65 rfl rfl rfl ?_
        obtain ⟨hs, h⟩ := h
        refine x_iald hP 67 dX6_late_66 rfl (hG.A_167) (by decide) hs ?_
        refine x_iloadn hP 68 2 dX6_late_67 rfl rfl mm2 ?_
        refine x_iadd hP 69 dX6_late_68 rfl ?_
        obtain ⟨hs1, h⟩ := h
        refine x_iast hP 70 dX6_late_69 rfl (hG.A_167) (by decide) hs1 ?_
        refine x_aloadn hP 71 0 dX6_late_70 rfl rfl mm0 ?_
        refine x_bipush hP 73 dX6_late_71 rfl (by decide) ?_
        refine x_aloadn hP 74 0 dX6_late_73 rfl rfl mm0 ?_
        refine x_getr hP 77 167 dX6_late_74 rfl fl_RX6_7 (hG.O_166) (by decide) rfl (hG.R_166_0) ?_
        refine x_iconst hP 78 dX6_late_77 rfl ?_
        refine x_iald hP 79 dX6_late_78 rfl (hG.A_167) (by decide) (by decide) ?_
        obtain ⟨v5, hc, h⟩ := h
        refine x_cv hP 82 [vI 104, vI ((up2 s4 167 (Int.toNat (111 + a)) ((s4 167 (Int.toNat (111 + a))) + b)) 167 2)] [] dX6_late_79 rfl (hG.O_166) (by decide) rfl ml_RX6_62 im_X6_brought se_X6_brought it_RX6 pp_X6_brought bd_X6_brought rfl rfl ⟨Nat.le_refl _, Nat.le_refl _⟩ (by simp [pC]) hc ?_
        refine x_aloadn hP 83 0 dX6_late_82 rfl rfl mm0 ?_
        refine x_iconst hP 84 dX6_late_83 rfl ?_
        obtain ⟨v6, hc, h⟩ := h
        refine x_cv hP 87 [vI 0] [vI v5] dX6_late_84 rfl (hG.O_166) (by decide) rfl ml_RX6_58 im_X6_used se_X6_used it_RX6 pp_X6_used bd_X6_used rfl rfl ⟨Nat.le_refl _, Nat.le_refl _⟩ (by simp [pC]) hc ?_
        obtain ⟨hs1, hs2, h⟩ := h
        refine x_icmp hP 90 93 (v6 ≤ v5) dX6_late_87 rfl rfl hs1 hs2 rfl (fun hbr => ?_) (fun hbr => ?_)
        · replace h := h.1 hbr
          refine x_aloadn hP 94 0 dX6_late_93 rfl rfl mm0 ?_
          obtain ⟨s7, hc, h⟩ := h
          refine x_cv hP 97 [] [] dX6_late_94 rfl (hG.O_166) (by decide) rfl ml_RX6_152 im_X6_minds se_X6_minds it_RX6 pp_X6_minds bd_X6_minds rfl rfl ⟨Nat.le_refl _, Nat.le_refl _⟩ (by simp [pC]) hc ?_
          refine x_aloadn hP 98 0 dX6_late_97 rfl rfl mm0 ?_
          refine x_getr hP 101 167 dX6_late_98 rfl fl_RX6_7 (hG.O_166) (by decide) rfl (hG.R_166_0) ?_
          refine x_bipush hP 103 dX6_late_101 rfl (by decide) ?_
          refine x_iloadn hP 104 1 dX6_late_103 rfl rfl mm1 ?_
          refine x_iadd hP 105 dX6_late_104 rfl ?_
          refine x_dup2 hP 106 dX6_late_105 rfl rfl rfl ?_
          obtain ⟨hs, h⟩ := h
          refine x_iald hP 107 dX6_late_106 rfl (hG.A_167) (by decide) hs ?_
          refine x_iloadn hP 108 2 dX6_late_107 rfl rfl mm2 ?_
          refine x_iadd hP 109 dX6_late_108 rfl ?_
          obtain ⟨hs1, h⟩ := h
          refine x_iast hP 110 dX6_late_109 rfl (hG.A_167) (by decide) hs1 ?_
          refine x_aloadn hP 111 0 dX6_late_110 rfl rfl mm0 ?_
          refine x_getr hP 114 167 dX6_late_111 rfl fl_RX6_7 (hG.O_166) (by decide) rfl (hG.R_166_0) ?_
          refine x_bipush hP 116 dX6_late_114 rfl (by decide) ?_
          refine x_iloadn hP 117 1 dX6_late_116 rfl rfl mm1 ?_
          refine x_iadd hP 118 dX6_late_117 rfl ?_
          obtain ⟨hs, h⟩ := h
          refine x_iald hP 119 dX6_late_118 rfl (hG.A_167) (by decide) hs ?_
          exact x_iret hP dX6_late_119 ⟨Nat.le_refl _, Nat.le_refl _⟩ h
        · replace h := h.2 hbr
          refine x_ldc hP 92 dX6_late_90 rfl kc_RX6_165 ?_
          exact x_iret hP dX6_late_92 ⟨Nat.le_refl _, Nat.le_refl _⟩ h
      · replace h := h.2 hbr
        refine x_ldc hP 49 dX6_late_47 rfl kc_RX6_132 ?_
        exact x_iret hP dX6_late_49 ⟨Nat.le_refl _, Nat.le_refl _⟩ h
  · replace h := h.2 hbr
    refine x_ldc hP 10 dX6_late_8 rfl kc_RX6_137 ?_
    exact x_iret hP dX6_late_10 ⟨Nat.le_refl _, Nat.le_refl _⟩ h
theorem k_X6_away_0 {d : Nat} {Q : pQ} {P : pP} {g : pG} {σ : pM} (hP : Clo (pCall d) yX6_away cX6_away (some .int) 4 0 0 Q P) (a : Int) (hG : gAll g) (h : ∃ (v1 : Int), Ca d yX6_isTruck [vR (some 166), vI a] g σ [vI v1] g σ ∧ iR v1 ∧ (¬ v1 = 0 → (0 ≤ (7 + a) ∧ (7 + a) < 1300) ∧ iR (σ 167 (Int.toNat (7 + a))) ∧ iR (σ 167 2) ∧ ((σ 167 2) < (σ 167 (Int.toNat (7 + a))) → ∃ (v2 : Int), Ca d yX6_brought [vR (some 166), vI 0, vI (σ 167 2)] g σ [vI v2] g σ ∧ ∃ (v3 : Int), Ca d yX6_used [vR (some 166), vI 0] g σ [vI v3] g σ ∧ iR (v2 - 0) ∧ iR v3 ∧ (v3 ≤ (v2 - 0) → ∃ (s4 : pM), Ca d yX6_minds [vR (some 166)] g σ [] g s4 ∧ P 83 [(0, vR (some 166)), (3, vI a)] [] g (up2 s4 167 3 ((s4 167 3) - 1)) 0 0) ∧ (¬ (v3 ≤ (v2 - 0)) → Q [vI ((-1000000003))] g σ)) ∧ (¬ ((σ 167 2) < (σ 167 (Int.toNat (7 + a)))) → (0 ≤ (16 + a) ∧ (16 + a) < 1300) ∧ ∃ (v5 : Int), Ca d yX6_brought [vR (some 166), vI 0, vI (σ 167 2)] g σ [vI v5] g σ ∧ ∃ (v6 : Int), Ca d yX6_used [vR (some 166), vI 0] g σ [vI v6] g σ ∧ iR (v5 - (σ 167 (Int.toNat (16 + a)))) ∧ iR v6 ∧ (v6 ≤ (v5 - (σ 167 (Int.toNat (16 + a)))) → ∃ (s7 : pM), Ca d yX6_minds [vR (some 166)] g σ [] g s7 ∧ P 83 [(0, vR (some 166)), (3, vI a)] [] g (up2 s7 167 3 ((s7 167 3) - 1)) 0 0) ∧ (¬ (v6 ≤ (v5 - (σ 167 (Int.toNat (16 + a))))) → Q [vI ((-1000000003))] g σ))) ∧ (¬ (¬ v1 = 0) → Q [vI ((-1000000001))] g σ)) : P 0 [(0, vR (some 166)), (1, vI a)] [] g σ 0 0 := by
  refine x_aloadn hP 1 0 dX6_away_0 rfl rfl mm0 ?_
  refine x_iloadn hP 2 1 dX6_away_1 rfl rfl mm1 ?_
  obtain ⟨v1, hc, h⟩ := h
  refine x_cv hP 5 [vI a] [] dX6_away_2 rfl (hG.O_166) (by decide) rfl ml_RX6_141 im_X6_isTruck se_X6_isTruck it_RX6 pp_X6_isTruck bd_X6_isTruck rfl rfl ⟨Nat.le_refl _, Nat.le_refl _⟩ (by simp [pC]) hc ?_
  obtain ⟨hs1, h⟩ := h
  refine x_ifc hP 8 11 (¬ v1 = 0) dX6_away_5 rfl rfl hs1 rfl (fun hbr => ?_) (fun hbr => ?_)
  · replace h := h.1 hbr
    refine x_aloadn hP 12 0 dX6_away_11 rfl rfl mm0 ?_
    refine x_getr hP 15 167 dX6_away_12 rfl fl_RX6_7 (hG.O_166) (by decide) rfl (hG.R_166_0) ?_
    refine x_bipush hP 17 dX6_away_15 rfl (by decide) ?_
    refine x_iloadn hP 18 1 dX6_away_17 rfl rfl mm1 ?_
    refine x_iadd hP 19 dX6_away_18 rfl ?_
    obtain ⟨hs, h⟩ := h
    refine x_iald hP 20 dX6_away_19 rfl (hG.A_167) (by decide) hs ?_
    refine x_aloadn hP 21 0 dX6_away_20 rfl rfl mm0 ?_
    refine x_getr hP 24 167 dX6_away_21 rfl fl_RX6_7 (hG.O_166) (by decide) rfl (hG.R_166_0) ?_
    refine x_iconst hP 25 dX6_away_24 rfl ?_
    refine x_iald hP 26 dX6_away_25 rfl (hG.A_167) (by decide) (by decide) ?_
    obtain ⟨hs1, hs2, h⟩ := h
    refine x_icmp hP 29 41 ((σ 167 2) < (σ 167 (Int.toNat (7 + a)))) dX6_away_26 rfl rfl hs1 hs2 rfl (fun hbr => ?_) (fun hbr => ?_)
    · replace h := h.1 hbr
      refine x_iconst hP 42 dX6_away_41 rfl ?_
      refine x_istoren hP 43 2 [(0, vR (some 166)), (1, vI a), (2, vI 0)] dX6_away_42 rfl rfl (by decide) rfl rfl ?_
      refine x_aloadn hP 44 0 dX6_away_43 rfl rfl mm0 ?_
      refine x_iconst hP 45 dX6_away_44 rfl ?_
      refine x_aloadn hP 46 0 dX6_away_45 rfl rfl mm0 ?_
      refine x_getr hP 49 167 dX6_away_46 rfl fl_RX6_7 (hG.O_166) (by decide) rfl (hG.R_166_0) ?_
      refine x_iconst hP 50 dX6_away_49 rfl ?_
      refine x_iald hP 51 dX6_away_50 rfl (hG.A_167) (by decide) (by decide) ?_
      obtain ⟨v2, hc, h⟩ := h
      refine x_cv hP 54 [vI 0, vI (σ 167 2)] [] dX6_away_51 rfl (hG.O_166) (by decide) rfl ml_RX6_62 im_X6_brought se_X6_brought it_RX6 pp_X6_brought bd_X6_brought rfl rfl ⟨Nat.le_refl _, Nat.le_refl _⟩ (by simp [pC]) hc ?_
      refine x_iloadn hP 55 2 dX6_away_54 rfl rfl mm2 ?_
      refine x_isub hP 56 dX6_away_55 rfl ?_
      refine x_aloadn hP 57 0 dX6_away_56 rfl rfl mm0 ?_
      refine x_iconst hP 58 dX6_away_57 rfl ?_
      obtain ⟨v3, hc, h⟩ := h
      refine x_cv hP 61 [vI 0] [vI (v2 - 0)] dX6_away_58 rfl (hG.O_166) (by decide) rfl ml_RX6_58 im_X6_used se_X6_used it_RX6 pp_X6_used bd_X6_used rfl rfl ⟨Nat.le_refl _, Nat.le_refl _⟩ (by simp [pC]) hc ?_
      obtain ⟨hs1, hs2, h⟩ := h
      refine x_icmp hP 64 67 (v3 ≤ (v2 - 0)) dX6_away_61 rfl rfl hs1 hs2 rfl (fun hbr => ?_) (fun hbr => ?_)
      · replace h := h.1 hbr
        refine x_aloadn hP 68 0 dX6_away_67 rfl rfl mm0 ?_
        obtain ⟨s4, hc, h⟩ := h
        refine x_cv hP 71 [] [] dX6_away_68 rfl (hG.O_166) (by decide) rfl ml_RX6_152 im_X6_minds se_X6_minds it_RX6 pp_X6_minds bd_X6_minds rfl rfl ⟨Nat.le_refl _, Nat.le_refl _⟩ (by simp [pC]) hc ?_
        refine x_aloadn hP 72 0 dX6_away_71 rfl rfl mm0 ?_
        refine x_getr hP 75 167 dX6_away_72 rfl fl_RX6_7 (hG.O_166) (by decide) rfl (hG.R_166_0) ?_
        refine x_iconst hP 76 dX6_away_75 rfl ?_
        refine x_dup2 hP 77 dX6_away_76 rfl rfl rfl ?_
        refine x_iald hP 78 dX6_away_77 rfl (hG.A_167) (by decide) (by decide) ?_
        refine x_iconst hP 79 dX6_away_78 rfl ?_
        refine x_isub hP 80 dX6_away_79 rfl ?_
        refine x_iast hP 81 dX6_away_80 rfl (hG.A_167) (by decide) (by decide) ?_
        refine x_iloadn hP 82 1 dX6_away_81 rfl rfl mm1 ?_
        refine x_istoren hP 83 3 [(0, vR (some 166)), (1, vI a), (2, vI 0), (3, vI a)] dX6_away_82 rfl rfl (by decide) rfl rfl ?_
        exact x_sub hP [0, 3] rfl h
      · replace h := h.2 hbr
        refine x_ldc hP 66 dX6_away_64 rfl kc_RX6_165 ?_
        exact x_iret hP dX6_away_66 ⟨Nat.le_refl _, Nat.le_refl _⟩ h
    · replace h := h.2 hbr
      refine x_aloadn hP 30 0 dX6_away_29 rfl rfl mm0 ?_
      refine x_getr hP 33 167 dX6_away_30 rfl fl_RX6_7 (hG.O_166) (by decide) rfl (hG.R_166_0) ?_
      refine x_bipush hP 35 dX6_away_33 rfl (by decide) ?_
      refine x_iloadn hP 36 1 dX6_away_35 rfl rfl mm1 ?_
      refine x_iadd hP 37 dX6_away_36 rfl ?_
      obtain ⟨hs, h⟩ := h
      refine x_iald hP 38 dX6_away_37 rfl (hG.A_167) (by decide) hs ?_
      refine x_goto hP 42 dX6_away_38 rfl ?_
      refine x_istoren hP 43 2 [(0, vR (some 166)), (1, vI a), (2, vI (σ 167 (Int.toNat (16 + a))))] dX6_away_42 rfl rfl (by decide) rfl rfl ?_
      refine x_aloadn hP 44 0 dX6_away_43 rfl rfl mm0 ?_
      refine x_iconst hP 45 dX6_away_44 rfl ?_
      refine x_aloadn hP 46 0 dX6_away_45 rfl rfl mm0 ?_
      refine x_getr hP 49 167 dX6_away_46 rfl fl_RX6_7 (hG.O_166) (by decide) rfl (hG.R_166_0) ?_
      refine x_iconst hP 50 dX6_away_49 rfl ?_
      refine x_iald hP 51 dX6_away_50 rfl (hG.A_167) (by decide) (by decide) ?_
      obtain ⟨v5, hc, h⟩ := h
      refine x_cv hP 54 [vI 0, vI (σ 167 2)] [] dX6_away_51 rfl (hG.O_166) (by decide) rfl ml_RX6_62 im_X6_brought se_X6_brought it_RX6 pp_X6_brought bd_X6_brought rfl rfl ⟨Nat.le_refl _, Nat.le_refl _⟩ (by simp [pC]) hc ?_
      refine x_iloadn hP 55 2 dX6_away_54 rfl rfl mm2 ?_
      refine x_isub hP 56 dX6_away_55 rfl ?_
      refine x_aloadn hP 57 0 dX6_away_56 rfl rfl mm0 ?_
      refine x_iconst hP 58 dX6_away_57 rfl ?_
      obtain ⟨v6, hc, h⟩ := h
      refine x_cv hP 61 [vI 0] [vI (v5 - (σ 167 (Int.toNat (16 + a))))] dX6_away_58 rfl (hG.O_166) (by decide) rfl ml_RX6_58 im_X6_used se_X6_used it_RX6 pp_X6_used bd_X6_used rfl rfl ⟨Nat.le_refl _, Nat.le_refl _⟩ (by simp [pC]) hc ?_
      obtain ⟨hs1, hs2, h⟩ := h
      refine x_icmp hP 64 67 (v6 ≤ (v5 - (σ 167 (Int.toNat (16 + a))))) dX6_away_61 rfl rfl hs1 hs2 rfl (fun hbr => ?_) (fun hbr => ?_)
      · replace h := h.1 hbr
        refine x_aloadn hP 68 0 dX6_away_67 rfl rfl mm0 ?_
        obtain ⟨s7, hc, h⟩ := h
        refine x_cv hP 71 [] [] dX6_away_68 rfl (hG.O_166) (by decide) rfl ml_RX6_152 im_X6_minds se_X6_minds it_RX6 pp_X6_minds bd_X6_minds rfl rfl ⟨Nat.le_refl _, Nat.le_refl _⟩ (by simp [pC]) hc ?_
        refine x_aloadn hP 72 0 dX6_away_71 rfl rfl mm0 ?_
        refine x_getr hP 75 167 dX6_away_72 rfl fl_RX6_7 (hG.O_166) (by decide) rfl (hG.R_166_0) ?_
        refine x_iconst hP 76 dX6_away_75 rfl ?_
        refine x_dup2 hP 77 dX6_away_76 rfl rfl rfl ?_
        refine x_iald hP 78 dX6_away_77 rfl (hG.A_167) (by decide) (by decide) ?_
        refine x_iconst hP 79 dX6_away_78 rfl ?_
        refine x_isub hP 80 dX6_away_79 rfl ?_
        refine x_iast hP 81 dX6_away_80 rfl (hG.A_167) (by decide) (by decide) ?_
        refine x_iloadn hP 82 1 dX6_away_81 rfl rfl mm1 ?_
        refine x_istoren hP 83 3 [(0, vR (some 166)), (1, vI a), (2, vI (σ 167 (Int.toNat (16 + a)))), (3, vI a)] dX6_away_82 rfl rfl (by decide) rfl rfl ?_
        exact x_sub hP [0, 3] rfl h
      · replace h := h.2 hbr
        refine x_ldc hP 66 dX6_away_64 rfl kc_RX6_165 ?_
        exact x_iret hP dX6_away_66 ⟨Nat.le_refl _, Nat.le_refl _⟩ h
  · replace h := h.2 hbr
    refine x_ldc hP 10 dX6_away_8 rfl kc_RX6_137 ?_
    exact x_iret hP dX6_away_10 ⟨Nat.le_refl _, Nat.le_refl _⟩ h
theorem k_X6_away_83 {d : Nat} {Q : pQ} {P : pP} {g : pG} {σ : pM} (hP : Clo (pCall d) yX6_away cX6_away (some .int) 4 0 0 Q P) (x3 : Int) (hG : gAll g) (h : iR x3 ∧ iR (σ 167 3) ∧ ((σ 167 3) ≤ x3 → Q [vI (σ 167 3)] g σ) ∧ (¬ ((σ 167 3) ≤ x3) → (0 ≤ ((7 + x3) + 1) ∧ ((7 + x3) + 1) < 1300) ∧ (0 ≤ (7 + x3) ∧ (7 + x3) < 1300) ∧ (0 ≤ ((16 + x3) + 1) ∧ ((16 + x3) + 1) < 1300) ∧ (0 ≤ (16 + x3) ∧ (16 + x3) < 1300) ∧ P 83 [(0, vR (some 166)), (3, vI (x3 + 1))] [] g (up2 (up2 σ 167 (Int.toNat (7 + x3)) (σ 167 (Int.toNat ((7 + x3) + 1)))) 167 (Int.toNat (16 + x3)) ((up2 σ 167 (Int.toNat (7 + x3)) (σ 167 (Int.toNat ((7 + x3) + 1)))) 167 (Int.toNat ((16 + x3) + 1)))) 0 0)) : P 83 [(0, vR (some 166)), (3, vI x3)] [] g σ 0 0 := by
  refine x_iloadn hP 84 3 dX6_away_83 rfl rfl mm1 ?_
  refine x_aloadn hP 85 0 dX6_away_84 rfl rfl mm0 ?_
  refine x_getr hP 88 167 dX6_away_85 rfl fl_RX6_7 (hG.O_166) (by decide) rfl (hG.R_166_0) ?_
  refine x_iconst hP 89 dX6_away_88 rfl ?_
  refine x_iald hP 90 dX6_away_89 rfl (hG.A_167) (by decide) (by decide) ?_
  obtain ⟨hs1, hs2, h⟩ := h
  refine x_icmp hP 93 139 ((σ 167 3) ≤ x3) dX6_away_90 rfl rfl hs1 hs2 rfl (fun hbr => ?_) (fun hbr => ?_)
  · replace h := h.1 hbr
    refine x_aloadn hP 140 0 dX6_away_139 rfl rfl mm0 ?_
    refine x_getr hP 143 167 dX6_away_140 rfl fl_RX6_7 (hG.O_166) (by decide) rfl (hG.R_166_0) ?_
    refine x_iconst hP 144 dX6_away_143 rfl ?_
    refine x_iald hP 145 dX6_away_144 rfl (hG.A_167) (by decide) (by decide) ?_
    exact x_iret hP dX6_away_145 ⟨Nat.le_refl _, Nat.le_refl _⟩ h
  · replace h := h.2 hbr
    refine x_aloadn hP 94 0 dX6_away_93 rfl rfl mm0 ?_
    refine x_getr hP 97 167 dX6_away_94 rfl fl_RX6_7 (hG.O_166) (by decide) rfl (hG.R_166_0) ?_
    refine x_bipush hP 99 dX6_away_97 rfl (by decide) ?_
    refine x_iloadn hP 100 3 dX6_away_99 rfl rfl mm1 ?_
    refine x_iadd hP 101 dX6_away_100 rfl ?_
    refine x_aloadn hP 102 0 dX6_away_101 rfl rfl mm0 ?_
    refine x_getr hP 105 167 dX6_away_102 rfl fl_RX6_7 (hG.O_166) (by decide) rfl (hG.R_166_0) ?_
    refine x_bipush hP 107 dX6_away_105 rfl (by decide) ?_
    refine x_iloadn hP 108 3 dX6_away_107 rfl rfl mm1 ?_
    refine x_iadd hP 109 dX6_away_108 rfl ?_
    refine x_iconst hP 110 dX6_away_109 rfl ?_
    refine x_iadd hP 111 dX6_away_110 rfl ?_
    obtain ⟨hs, h⟩ := h
    refine x_iald hP 112 dX6_away_111 rfl (hG.A_167) (by decide) hs ?_
    obtain ⟨hs1, h⟩ := h
    refine x_iast hP 113 dX6_away_112 rfl (hG.A_167) (by decide) hs1 ?_
    refine x_aloadn hP 114 0 dX6_away_113 rfl rfl mm0 ?_
    refine x_getr hP 117 167 dX6_away_114 rfl fl_RX6_7 (hG.O_166) (by decide) rfl (hG.R_166_0) ?_
    refine x_bipush hP 119 dX6_away_117 rfl (by decide) ?_
    refine x_iloadn hP 120 3 dX6_away_119 rfl rfl mm1 ?_
    refine x_iadd hP 121 dX6_away_120 rfl ?_
    refine x_aloadn hP 122 0 dX6_away_121 rfl rfl mm0 ?_
    refine x_getr hP 125 167 dX6_away_122 rfl fl_RX6_7 (hG.O_166) (by decide) rfl (hG.R_166_0) ?_
    refine x_bipush hP 127 dX6_away_125 rfl (by decide) ?_
    refine x_iloadn hP 128 3 dX6_away_127 rfl rfl mm1 ?_
    refine x_iadd hP 129 dX6_away_128 rfl ?_
    refine x_iconst hP 130 dX6_away_129 rfl ?_
    refine x_iadd hP 131 dX6_away_130 rfl ?_
    obtain ⟨hs, h⟩ := h
    refine x_iald hP 132 dX6_away_131 rfl (hG.A_167) (by decide) hs ?_
    obtain ⟨hs1, h⟩ := h
    refine x_iast hP 133 dX6_away_132 rfl (hG.A_167) (by decide) hs1 ?_
    refine x_iinc hP 136 [(0, vR (some 166)), (3, vI (x3 + 1))] dX6_away_133 rfl mm1 (by decide) rfl rfl ?_
    refine x_goto hP 83 dX6_away_136 rfl ?_
    exact h
theorem k_X6_need_0 {d : Nat} {Q : pQ} {P : pP} {g : pG} {σ : pM} (hP : Clo (pCall d) yX6_need cX6_need (some .int) 4 0 0 Q P) (a : Int) (b : Int) (hG : gAll g) (h : ∃ (v1 : Int), Ca d yX6_isCell [vR (some 166), vI a] g σ [vI v1] g σ ∧ iR v1 ∧ (¬ v1 = 0 → iR b ∧ ∃ (v2 : Int), Ca d yX6_in [vJ b, vJ 1, vJ 3] g σ [vI v2] g σ ∧ iR v2 ∧ (¬ v2 = 0 → ∃ (v3 : Int), Ca d yX6_isPoured [vR (some 166), vI 0, vI a] g σ [vI v3] g σ ∧ iR v3 ∧ (v3 = 0 → ∃ (s4 : pM), Ca d yX6_minds [vR (some 166)] g σ [] g s4 ∧ (0 ≤ (25 + a) ∧ (25 + a) < 1300) ∧ (0 ≤ (25 + a) ∧ (25 + a) < 1300) ∧ Q [vI (s4 167 (Int.toNat (25 + a)))] g (up2 s4 167 (Int.toNat (25 + a)) b)) ∧ (¬ (v3 = 0) → Q [vI ((-1000000003))] g σ)) ∧ (¬ (¬ v2 = 0) → Q [vI ((-1000000002))] g σ)) ∧ (¬ (¬ v1 = 0) → Q [vI ((-1000000001))] g σ)) : P 0 [(0, vR (some 166)), (1, vI a), (2, vI b)] [] g σ 0 0 := by
  refine x_aloadn hP 1 0 dX6_need_0 rfl rfl mm0 ?_
  refine x_iloadn hP 2 1 dX6_need_1 rfl rfl mm1 ?_
  obtain ⟨v1, hc, h⟩ := h
  refine x_cv hP 5 [vI a] [] dX6_need_2 rfl (hG.O_166) (by decide) rfl ml_RX6_133 im_X6_isCell se_X6_isCell it_RX6 pp_X6_isCell bd_X6_isCell rfl rfl ⟨Nat.le_refl _, Nat.le_refl _⟩ (by simp [pC]) hc ?_
  obtain ⟨hs1, h⟩ := h
  refine x_ifc hP 8 11 (¬ v1 = 0) dX6_need_5 rfl rfl hs1 rfl (fun hbr => ?_) (fun hbr => ?_)
  · replace h := h.1 hbr
    refine x_iloadn hP 12 2 dX6_need_11 rfl rfl mm2 ?_
    obtain ⟨hs, h⟩ := h
    refine x_i2l hP 13 dX6_need_12 rfl hs ?_
    refine x_lconst hP 14 dX6_need_13 rfl ?_
    refine x_ldc2 hP 17 dX6_need_14 rfl kl_RX6_147 ?_
    obtain ⟨v2, hc, h⟩ := h
    refine x_cs hP 20 [vJ b, vJ 1, vJ 3] [] dX6_need_17 rfl ml_RX6_50 sm_X6_in it_RX6 pp_X6_in bd_X6_in rfl rfl ⟨Nat.le_refl _, Nat.le_refl _⟩ (by simp [pC]) hc ?_
    obtain ⟨hs1, h⟩ := h
    refine x_ifc hP 23 26 (¬ v2 = 0) dX6_need_20 rfl rfl hs1 rfl (fun hbr => ?_) (fun hbr => ?_)
    · replace h := h.1 hbr
      refine x_aloadn hP 27 0 dX6_need_26 rfl rfl mm0 ?_
      refine x_iconst hP 28 dX6_need_27 rfl ?_
      refine x_iloadn hP 29 1 dX6_need_28 rfl rfl mm1 ?_
      obtain ⟨v3, hc, h⟩ := h
      refine x_cv hP 32 [vI 0, vI a] [] dX6_need_29 rfl (hG.O_166) (by decide) rfl ml_RX6_54 im_X6_isPoured se_X6_isPoured it_RX6 pp_X6_isPoured bd_X6_isPoured rfl rfl ⟨Nat.le_refl _, Nat.le_refl _⟩ (by simp [pC]) hc ?_
      obtain ⟨hs1, h⟩ := h
      refine x_ifc hP 35 38 (v3 = 0) dX6_need_32 rfl rfl hs1 rfl (fun hbr => ?_) (fun hbr => ?_)
      · replace h := h.1 hbr
        refine x_aloadn hP 39 0 dX6_need_38 rfl rfl mm0 ?_
        obtain ⟨s4, hc, h⟩ := h
        refine x_cv hP 42 [] [] dX6_need_39 rfl (hG.O_166) (by decide) rfl ml_RX6_152 im_X6_minds se_X6_minds it_RX6 pp_X6_minds bd_X6_minds rfl rfl ⟨Nat.le_refl _, Nat.le_refl _⟩ (by simp [pC]) hc ?_
        refine x_aloadn hP 43 0 dX6_need_42 rfl rfl mm0 ?_
        refine x_getr hP 46 167 dX6_need_43 rfl fl_RX6_7 (hG.O_166) (by decide) rfl (hG.R_166_0) ?_
        refine x_bipush hP 48 dX6_need_46 rfl (by decide) ?_
        refine x_iloadn hP 49 1 dX6_need_48 rfl rfl mm1 ?_
        refine x_iadd hP 50 dX6_need_49 rfl ?_
        obtain ⟨hs, h⟩ := h
        refine x_iald hP 51 dX6_need_50 rfl (hG.A_167) (by decide) hs ?_
        refine x_istoren hP 52 3 [(0, vR (some 166)), (1, vI a), (2, vI b), (3, vI (s4 167 (Int.toNat (25 + a))))] dX6_need_51 rfl rfl (by decide) rfl rfl ?_
        refine x_aloadn hP 53 0 dX6_need_52 rfl rfl mm0 ?_
        refine x_getr hP 56 167 dX6_need_53 rfl fl_RX6_7 (hG.O_166) (by decide) rfl (hG.R_166_0) ?_
        refine x_bipush hP 58 dX6_need_56 rfl (by decide) ?_
        refine x_iloadn hP 59 1 dX6_need_58 rfl rfl mm1 ?_
        refine x_iadd hP 60 dX6_need_59 rfl ?_
        refine x_iloadn hP 61 2 dX6_need_60 rfl rfl mm2 ?_
        obtain ⟨hs1, h⟩ := h
        refine x_iast hP 62 dX6_need_61 rfl (hG.A_167) (by decide) hs1 ?_
        refine x_iloadn hP 63 3 dX6_need_62 rfl rfl mm3 ?_
        exact x_iret hP dX6_need_63 ⟨Nat.le_refl _, Nat.le_refl _⟩ h
      · replace h := h.2 hbr
        refine x_ldc hP 37 dX6_need_35 rfl kc_RX6_165 ?_
        exact x_iret hP dX6_need_37 ⟨Nat.le_refl _, Nat.le_refl _⟩ h
    · replace h := h.2 hbr
      refine x_ldc hP 25 dX6_need_23 rfl kc_RX6_132 ?_
      exact x_iret hP dX6_need_25 ⟨Nat.le_refl _, Nat.le_refl _⟩ h
  · replace h := h.2 hbr
    refine x_ldc hP 10 dX6_need_8 rfl kc_RX6_137 ?_
    exact x_iret hP dX6_need_10 ⟨Nat.le_refl _, Nat.le_refl _⟩ h
theorem k_X6_bound_0 {d : Nat} {Q : pQ} {P : pP} {g : pG} {σ : pM} (hP : Clo (pCall d) yX6_bound cX6_bound (some .int) 5 0 0 Q P) (a : Int) (b : Int) (hG : gAll g) (h : iR a ∧ (¬ a = 0 → iR a ∧ ∃ (v1 : Int), Ca d yX6_in [vJ a, vJ 1, vJ 2] g σ [vI v1] g σ ∧ iR v1 ∧ (v1 = 0 → Q [vI ((-1000000002))] g σ) ∧ (¬ (v1 = 0) → iR b ∧ ∃ (v2 : Int), Ca d yX6_in [vJ b, vJ 0, vJ 9] g σ [vI v2] g σ ∧ iR v2 ∧ (v2 = 0 → Q [vI ((-1000000002))] g σ) ∧ (¬ (v2 = 0) → ∃ (s3 : pM), Ca d yX6_minds [vR (some 166)] g σ [] g s3 ∧ (0 ≤ (4 + a) ∧ (4 + a) < 1300) ∧ (0 ≤ (4 + a) ∧ (4 + a) < 1300) ∧ Q [vI (s3 167 (Int.toNat (4 + a)))] g (up2 s3 167 (Int.toNat (4 + a)) b)))) ∧ (¬ (¬ a = 0) → iR b ∧ ∃ (v4 : Int), Ca d yX6_in [vJ b, vJ 1, vJ 40] g σ [vI v4] g σ ∧ iR v4 ∧ (¬ v4 = 0 → ∃ (s5 : pM), Ca d yX6_minds [vR (some 166)] g σ [] g s5 ∧ (0 ≤ (4 + a) ∧ (4 + a) < 1300) ∧ (0 ≤ (4 + a) ∧ (4 + a) < 1300) ∧ Q [vI (s5 167 (Int.toNat (4 + a)))] g (up2 s5 167 (Int.toNat (4 + a)) b)) ∧ (¬ (¬ v4 = 0) → Q [vI ((-1000000002))] g σ))) : P 0 [(0, vR (some 166)), (1, vI a), (2, vI b)] [] g σ 0 0 := by
  refine x_iloadn hP 1 1 dX6_bound_0 rfl rfl mm1 ?_
  obtain ⟨hs1, h⟩ := h
  refine x_ifc hP 4 16 (¬ a = 0) dX6_bound_1 rfl rfl hs1 rfl (fun hbr => ?_) (fun hbr => ?_)
  · replace h := h.1 hbr
    refine x_iloadn hP 17 1 dX6_bound_16 rfl rfl mm1 ?_
    obtain ⟨hs, h⟩ := h
    refine x_i2l hP 18 dX6_bound_17 rfl hs ?_
    refine x_lconst hP 19 dX6_bound_18 rfl ?_
    refine x_ldc2 hP 22 dX6_bound_19 rfl kl_RX6_168 ?_
    obtain ⟨v1, hc, h⟩ := h
    refine x_cs hP 25 [vJ a, vJ 1, vJ 2] [] dX6_bound_22 rfl ml_RX6_50 sm_X6_in it_RX6 pp_X6_in bd_X6_in rfl rfl ⟨Nat.le_refl _, Nat.le_refl _⟩ (by simp [pC]) hc ?_
    obtain ⟨hs1, h⟩ := h
    refine x_ifc hP 28 44 (v1 = 0) dX6_bound_25 rfl rfl hs1 rfl (fun hbr => ?_) (fun hbr => ?_)
    · replace h := h.1 hbr
      refine x_iconst hP 45 dX6_bound_44 rfl ?_
      refine x_istoren hP 46 3 [(0, vR (some 166)), (1, vI a), (2, vI b), (3, vI 0)] dX6_bound_45 rfl rfl (by decide) rfl rfl ?_
      refine x_iloadn hP 47 3 dX6_bound_46 rfl rfl mm3 ?_
      refine x_ifc hP 50 53 (¬ (0 : Int) = 0) dX6_bound_47 rfl rfl (by decide) rfl (fun hbr => absurd hbr (by decide)) (fun _ => ?_)
      refine x_ldc hP 52 dX6_bound_50 rfl kc_RX6_132 ?_
      exact x_iret hP dX6_bound_52 ⟨Nat.le_refl _, Nat.le_refl _⟩ h
    · replace h := h.2 hbr
      refine x_iloadn hP 29 2 dX6_bound_28 rfl rfl mm2 ?_
      obtain ⟨hs, h⟩ := h
      refine x_i2l hP 30 dX6_bound_29 rfl hs ?_
      refine x_lconst hP 31 dX6_bound_30 rfl ?_
      refine x_ldc2 hP 34 dX6_bound_31 rfl kl_RX6_170 ?_
      obtain ⟨v2, hc, h⟩ := h
      refine x_cs hP 37 [vJ b, vJ 0, vJ 9] [] dX6_bound_34 rfl ml_RX6_50 sm_X6_in it_RX6 pp_X6_in bd_X6_in rfl rfl ⟨Nat.le_refl _, Nat.le_refl _⟩ (by simp [pC]) hc ?_
      obtain ⟨hs1, h⟩ := h
      refine x_ifc hP 40 44 (v2 = 0) dX6_bound_37 rfl rfl hs1 rfl (fun hbr => ?_) (fun hbr => ?_)
      · replace h := h.1 hbr
        refine x_iconst hP 45 dX6_bound_44 rfl ?_
        refine x_istoren hP 46 3 [(0, vR (some 166)), (1, vI a), (2, vI b), (3, vI 0)] dX6_bound_45 rfl rfl (by decide) rfl rfl ?_
        refine x_iloadn hP 47 3 dX6_bound_46 rfl rfl mm3 ?_
        refine x_ifc hP 50 53 (¬ (0 : Int) = 0) dX6_bound_47 rfl rfl (by decide) rfl (fun hbr => absurd hbr (by decide)) (fun _ => ?_)
        refine x_ldc hP 52 dX6_bound_50 rfl kc_RX6_132 ?_
        exact x_iret hP dX6_bound_52 ⟨Nat.le_refl _, Nat.le_refl _⟩ h
      · replace h := h.2 hbr
        refine x_iconst hP 41 dX6_bound_40 rfl ?_
        refine x_goto hP 45 dX6_bound_41 rfl ?_
        refine x_istoren hP 46 3 [(0, vR (some 166)), (1, vI a), (2, vI b), (3, vI 1)] dX6_bound_45 rfl rfl (by decide) rfl rfl ?_
        refine x_iloadn hP 47 3 dX6_bound_46 rfl rfl mm3 ?_
        refine x_ifc hP 50 53 (¬ (1 : Int) = 0) dX6_bound_47 rfl rfl (by decide) rfl (fun _ => ?_) (fun hbr => absurd hbr (by decide))
        refine x_aloadn hP 54 0 dX6_bound_53 rfl rfl mm0 ?_
        obtain ⟨s3, hc, h⟩ := h
        refine x_cv hP 57 [] [] dX6_bound_54 rfl (hG.O_166) (by decide) rfl ml_RX6_152 im_X6_minds se_X6_minds it_RX6 pp_X6_minds bd_X6_minds rfl rfl ⟨Nat.le_refl _, Nat.le_refl _⟩ (by simp [pC]) hc ?_
        refine x_aloadn hP 58 0 dX6_bound_57 rfl rfl mm0 ?_
        refine x_getr hP 61 167 dX6_bound_58 rfl fl_RX6_7 (hG.O_166) (by decide) rfl (hG.R_166_0) ?_
        refine x_iconst hP 62 dX6_bound_61 rfl ?_
        refine x_iloadn hP 63 1 dX6_bound_62 rfl rfl mm1 ?_
        refine x_iadd hP 64 dX6_bound_63 rfl ?_
        obtain ⟨hs, h⟩ := h
        refine x_iald hP 65 dX6_bound_64 rfl (hG.A_167) (by decide) hs ?_
        refine x_istore hP 67 [(0, vR (some 166)), (1, vI a), (2, vI b), (3, vI 1), (4, vI (s3 167 (Int.toNat (4 + a))))] dX6_bound_65 rfl (by decide) rfl rfl ?_
        refine x_aloadn hP 68 0 dX6_bound_67 rfl rfl mm0 ?_
        refine x_getr hP 71 167 dX6_bound_68 rfl fl_RX6_7 (hG.O_166) (by decide) rfl (hG.R_166_0) ?_
        refine x_iconst hP 72 dX6_bound_71 rfl ?_
        refine x_iloadn hP 73 1 dX6_bound_72 rfl rfl mm1 ?_
        refine x_iadd hP 74 dX6_bound_73 rfl ?_
        refine x_iloadn hP 75 2 dX6_bound_74 rfl rfl mm2 ?_
        obtain ⟨hs1, h⟩ := h
        refine x_iast hP 76 dX6_bound_75 rfl (hG.A_167) (by decide) hs1 ?_
        refine x_iload hP 78 dX6_bound_76 rfl mm4 ?_
        exact x_iret hP dX6_bound_78 ⟨Nat.le_refl _, Nat.le_refl _⟩ h
  · replace h := h.2 hbr
    refine x_iloadn hP 5 2 dX6_bound_4 rfl rfl mm2 ?_
    obtain ⟨hs, h⟩ := h
    refine x_i2l hP 6 dX6_bound_5 rfl hs ?_
    refine x_lconst hP 7 dX6_bound_6 rfl ?_
    refine x_ldc2 hP 10 dX6_bound_7 rfl kl_RX6_166 ?_
    obtain ⟨v4, hc, h⟩ := h
    refine x_cs hP 13 [vJ b, vJ 1, vJ 40] [] dX6_bound_10 rfl ml_RX6_50 sm_X6_in it_RX6 pp_X6_in bd_X6_in rfl rfl ⟨Nat.le_refl _, Nat.le_refl _⟩ (by simp [pC]) hc ?_
    refine x_goto hP 45 dX6_bound_13 rfl ?_
    refine x_istoren hP 46 3 [(0, vR (some 166)), (1, vI a), (2, vI b), (3, vI v4)] dX6_bound_45 rfl rfl (by decide) rfl rfl ?_
    refine x_iloadn hP 47 3 dX6_bound_46 rfl rfl mm3 ?_
    obtain ⟨hs1, h⟩ := h
    refine x_ifc hP 50 53 (¬ v4 = 0) dX6_bound_47 rfl rfl hs1 rfl (fun hbr => ?_) (fun hbr => ?_)
    · replace h := h.1 hbr
      refine x_aloadn hP 54 0 dX6_bound_53 rfl rfl mm0 ?_
      obtain ⟨s5, hc, h⟩ := h
      refine x_cv hP 57 [] [] dX6_bound_54 rfl (hG.O_166) (by decide) rfl ml_RX6_152 im_X6_minds se_X6_minds it_RX6 pp_X6_minds bd_X6_minds rfl rfl ⟨Nat.le_refl _, Nat.le_refl _⟩ (by simp [pC]) hc ?_
      refine x_aloadn hP 58 0 dX6_bound_57 rfl rfl mm0 ?_
      refine x_getr hP 61 167 dX6_bound_58 rfl fl_RX6_7 (hG.O_166) (by decide) rfl (hG.R_166_0) ?_
      refine x_iconst hP 62 dX6_bound_61 rfl ?_
      refine x_iloadn hP 63 1 dX6_bound_62 rfl rfl mm1 ?_
      refine x_iadd hP 64 dX6_bound_63 rfl ?_
      obtain ⟨hs, h⟩ := h
      refine x_iald hP 65 dX6_bound_64 rfl (hG.A_167) (by decide) hs ?_
      refine x_istore hP 67 [(0, vR (some 166)), (1, vI a), (2, vI b), (3, vI v4), (4, vI (s5 167 (Int.toNat (4 + a))))] dX6_bound_65 rfl (by decide) rfl rfl ?_
      refine x_aloadn hP 68 0 dX6_bound_67 rfl rfl mm0 ?_
      refine x_getr hP 71 167 dX6_bound_68 rfl fl_RX6_7 (hG.O_166) (by decide) rfl (hG.R_166_0) ?_
      refine x_iconst hP 72 dX6_bound_71 rfl ?_
      refine x_iloadn hP 73 1 dX6_bound_72 rfl rfl mm1 ?_
      refine x_iadd hP 74 dX6_bound_73 rfl ?_
      refine x_iloadn hP 75 2 dX6_bound_74 rfl rfl mm2 ?_
      obtain ⟨hs1, h⟩ := h
      refine x_iast hP 76 dX6_bound_75 rfl (hG.A_167) (by decide) hs1 ?_
      refine x_iload hP 78 dX6_bound_76 rfl mm4 ?_
      exact x_iret hP dX6_bound_78 ⟨Nat.le_refl _, Nat.le_refl _⟩ h
    · replace h := h.2 hbr
      refine x_ldc hP 52 dX6_bound_50 rfl kc_RX6_132 ?_
      exact x_iret hP dX6_bound_52 ⟨Nat.le_refl _, Nat.le_refl _⟩ h
theorem k_X6_pour_0 {d : Nat} {Q : pQ} {P : pP} {g : pG} {σ : pM} (hP : Clo (pCall d) yX6_pour cX6_pour (some .int) 2 0 0 Q P) (a : Int) (hG : gAll g) (h : ∃ (v1 : Int), Ca d yX6_isCell [vR (some 166), vI a] g σ [vI v1] g σ ∧ iR v1 ∧ (¬ v1 = 0 → ∃ (v2 : Int), Ca d yX6_beginOf [vR (some 166), vI 0, vI a] g σ [vI v2] g σ ∧ iR v2 ∧ (¬ v2 = ((-1)) → ∃ (s3 : pM), Ca d yX6_minds [vR (some 166)] g σ [] g s3 ∧ ∃ (v4 : Int) (s5 : pM), Ca d yX6_pours [vR (some 166), vI 0, vI a] g s3 [vI v4] g s5 ∧ iR v4 ∧ (v4 = 0 → Q [vI ((-1000000003))] g s5) ∧ (¬ (v4 = 0) → ∃ (v6 : Int), Ca d yX6_harm [vR (some 166), vI 0, vI 0] g s5 [vI v6] g s5 ∧ Q [vI v6] g s5)) ∧ (¬ (¬ v2 = ((-1))) → Q [vI ((-1000000003))] g σ)) ∧ (¬ (¬ v1 = 0) → Q [vI ((-1000000001))] g σ)) : P 0 [(0, vR (some 166)), (1, vI a)] [] g σ 0 0 := by
  refine x_aloadn hP 1 0 dX6_pour_0 rfl rfl mm0 ?_
  refine x_iloadn hP 2 1 dX6_pour_1 rfl rfl mm1 ?_
  obtain ⟨v1, hc, h⟩ := h
  refine x_cv hP 5 [vI a] [] dX6_pour_2 rfl (hG.O_166) (by decide) rfl ml_RX6_133 im_X6_isCell se_X6_isCell it_RX6 pp_X6_isCell bd_X6_isCell rfl rfl ⟨Nat.le_refl _, Nat.le_refl _⟩ (by simp [pC]) hc ?_
  obtain ⟨hs1, h⟩ := h
  refine x_ifc hP 8 11 (¬ v1 = 0) dX6_pour_5 rfl rfl hs1 rfl (fun hbr => ?_) (fun hbr => ?_)
  · replace h := h.1 hbr
    refine x_aloadn hP 12 0 dX6_pour_11 rfl rfl mm0 ?_
    refine x_iconst hP 13 dX6_pour_12 rfl ?_
    refine x_iloadn hP 14 1 dX6_pour_13 rfl rfl mm1 ?_
    obtain ⟨v2, hc, h⟩ := h
    refine x_cv hP 17 [vI 0, vI a] [] dX6_pour_14 rfl (hG.O_166) (by decide) rfl ml_RX6_67 im_X6_beginOf se_X6_beginOf it_RX6 pp_X6_beginOf bd_X6_beginOf rfl rfl ⟨Nat.le_refl _, Nat.le_refl _⟩ (by simp [pC]) hc ?_
    refine x_iconst hP 18 dX6_pour_17 rfl ?_
    obtain ⟨hs1, h⟩ := h
    refine x_icmp hP 21 24 (¬ v2 = ((-1))) dX6_pour_18 rfl rfl hs1 (by decide) rfl (fun hbr => ?_) (fun hbr => ?_)
    · replace h := h.1 hbr
      refine x_aloadn hP 25 0 dX6_pour_24 rfl rfl mm0 ?_
      obtain ⟨s3, hc, h⟩ := h
      refine x_cv hP 28 [] [] dX6_pour_25 rfl (hG.O_166) (by decide) rfl ml_RX6_152 im_X6_minds se_X6_minds it_RX6 pp_X6_minds bd_X6_minds rfl rfl ⟨Nat.le_refl _, Nat.le_refl _⟩ (by simp [pC]) hc ?_
      refine x_aloadn hP 29 0 dX6_pour_28 rfl rfl mm0 ?_
      refine x_iconst hP 30 dX6_pour_29 rfl ?_
      refine x_iloadn hP 31 1 dX6_pour_30 rfl rfl mm1 ?_
      obtain ⟨v4, s5, hc, h⟩ := h
      refine x_cv hP 34 [vI 0, vI a] [] dX6_pour_31 rfl (hG.O_166) (by decide) rfl ml_RX6_99 im_X6_pours se_X6_pours it_RX6 pp_X6_pours bd_X6_pours rfl rfl ⟨Nat.le_refl _, Nat.le_refl _⟩ (by simp [pC]) hc ?_
      obtain ⟨hs1, h⟩ := h
      refine x_ifc hP 37 46 (v4 = 0) dX6_pour_34 rfl rfl hs1 rfl (fun hbr => ?_) (fun hbr => ?_)
      · replace h := h.1 hbr
        refine x_ldc hP 48 dX6_pour_46 rfl kc_RX6_165 ?_
        exact x_iret hP dX6_pour_48 ⟨Nat.le_refl _, Nat.le_refl _⟩ h
      · replace h := h.2 hbr
        refine x_aloadn hP 38 0 dX6_pour_37 rfl rfl mm0 ?_
        refine x_iconst hP 39 dX6_pour_38 rfl ?_
        refine x_iconst hP 40 dX6_pour_39 rfl ?_
        obtain ⟨v6, hc, h⟩ := h
        refine x_cv hP 43 [vI 0, vI 0] [] dX6_pour_40 rfl (hG.O_166) (by decide) rfl ml_RX6_82 im_X6_harm se_X6_harm it_RX6 pp_X6_harm bd_X6_harm rfl rfl ⟨Nat.le_refl _, Nat.le_refl _⟩ (by simp [pC]) hc ?_
        refine x_goto hP 48 dX6_pour_43 rfl ?_
        exact x_iret hP dX6_pour_48 ⟨Nat.le_refl _, Nat.le_refl _⟩ h
    · replace h := h.2 hbr
      refine x_ldc hP 23 dX6_pour_21 rfl kc_RX6_165 ?_
      exact x_iret hP dX6_pour_23 ⟨Nat.le_refl _, Nat.le_refl _⟩ h
  · replace h := h.2 hbr
    refine x_ldc hP 10 dX6_pour_8 rfl kc_RX6_137 ?_
    exact x_iret hP dX6_pour_10 ⟨Nat.le_refl _, Nat.le_refl _⟩ h
theorem k_X6_rest_0 {d : Nat} {Q : pQ} {P : pP} {g : pG} {σ : pM} (hP : Clo (pCall d) yX6_rest cX6_rest (some .int) 2 0 0 Q P) (a : Int) (hG : gAll g) (h : iR a ∧ ∃ (v1 : Int), Ca d yX6_in [vJ a, vJ 1, vJ 40] g σ [vI v1] g σ ∧ iR v1 ∧ (¬ v1 = 0 → iR ((σ 167 2) + a) ∧ (((σ 167 2) + a) ≤ 9999 → ∃ (s2 : pM), Ca d yX6_minds [vR (some 166)] g σ [] g s2 ∧ Q [vI ((up2 s2 167 2 ((s2 167 2) + a)) 167 2)] g (up2 s2 167 2 ((s2 167 2) + a))) ∧ (¬ (((σ 167 2) + a) ≤ 9999) → Q [vI ((-1000000003))] g σ)) ∧ (¬ (¬ v1 = 0) → Q [vI ((-1000000002))] g σ)) : P 0 [(0, vR (some 166)), (1, vI a)] [] g σ 0 0 := by
  refine x_iloadn hP 1 1 dX6_rest_0 rfl rfl mm1 ?_
  obtain ⟨hs, h⟩ := h
  refine x_i2l hP 2 dX6_rest_1 rfl hs ?_
  refine x_lconst hP 3 dX6_rest_2 rfl ?_
  refine x_ldc2 hP 6 dX6_rest_3 rfl kl_RX6_166 ?_
  obtain ⟨v1, hc, h⟩ := h
  refine x_cs hP 9 [vJ a, vJ 1, vJ 40] [] dX6_rest_6 rfl ml_RX6_50 sm_X6_in it_RX6 pp_X6_in bd_X6_in rfl rfl ⟨Nat.le_refl _, Nat.le_refl _⟩ (by simp [pC]) hc ?_
  obtain ⟨hs1, h⟩ := h
  refine x_ifc hP 12 15 (¬ v1 = 0) dX6_rest_9 rfl rfl hs1 rfl (fun hbr => ?_) (fun hbr => ?_)
  · replace h := h.1 hbr
    refine x_aloadn hP 16 0 dX6_rest_15 rfl rfl mm0 ?_
    refine x_getr hP 19 167 dX6_rest_16 rfl fl_RX6_7 (hG.O_166) (by decide) rfl (hG.R_166_0) ?_
    refine x_iconst hP 20 dX6_rest_19 rfl ?_
    refine x_iald hP 21 dX6_rest_20 rfl (hG.A_167) (by decide) (by decide) ?_
    refine x_iloadn hP 22 1 dX6_rest_21 rfl rfl mm1 ?_
    refine x_iadd hP 23 dX6_rest_22 rfl ?_
    refine x_sipush hP 26 dX6_rest_23 rfl (by decide) ?_
    obtain ⟨hs1, h⟩ := h
    refine x_icmp hP 29 32 (((σ 167 2) + a) ≤ 9999) dX6_rest_26 rfl rfl hs1 (by decide) rfl (fun hbr => ?_) (fun hbr => ?_)
    · replace h := h.1 hbr
      refine x_aloadn hP 33 0 dX6_rest_32 rfl rfl mm0 ?_
      obtain ⟨s2, hc, h⟩ := h
      refine x_cv hP 36 [] [] dX6_rest_33 rfl (hG.O_166) (by decide) rfl ml_RX6_152 im_X6_minds se_X6_minds it_RX6 pp_X6_minds bd_X6_minds rfl rfl ⟨Nat.le_refl _, Nat.le_refl _⟩ (by simp [pC]) hc ?_
      refine x_aloadn hP 37 0 dX6_rest_36 rfl rfl mm0 ?_
      refine x_getr hP 40 167 dX6_rest_37 rfl fl_RX6_7 (hG.O_166) (by decide) rfl (hG.R_166_0) ?_
      refine x_iconst hP 41 dX6_rest_40 rfl ?_
      refine x_dup2 hP 42 dX6_rest_41 rfl rfl rfl ?_
      refine x_iald hP 43 dX6_rest_42 rfl (hG.A_167) (by decide) (by decide) ?_
      refine x_iloadn hP 44 1 dX6_rest_43 rfl rfl mm1 ?_
      refine x_iadd hP 45 dX6_rest_44 rfl ?_
      refine x_iast hP 46 dX6_rest_45 rfl (hG.A_167) (by decide) (by decide) ?_
      refine x_aloadn hP 47 0 dX6_rest_46 rfl rfl mm0 ?_
      refine x_getr hP 50 167 dX6_rest_47 rfl fl_RX6_7 (hG.O_166) (by decide) rfl (hG.R_166_0) ?_
      refine x_iconst hP 51 dX6_rest_50 rfl ?_
      refine x_iald hP 52 dX6_rest_51 rfl (hG.A_167) (by decide) (by decide) ?_
      exact x_iret hP dX6_rest_52 ⟨Nat.le_refl _, Nat.le_refl _⟩ h
    · replace h := h.2 hbr
      refine x_ldc hP 31 dX6_rest_29 rfl kc_RX6_165 ?_
      exact x_iret hP dX6_rest_31 ⟨Nat.le_refl _, Nat.le_refl _⟩ h
  · replace h := h.2 hbr
    refine x_ldc hP 14 dX6_rest_12 rfl kc_RX6_132 ?_
    exact x_iret hP dX6_rest_14 ⟨Nat.le_refl _, Nat.le_refl _⟩ h
theorem k_X6_follow_0 {d : Nat} {Q : pQ} {P : pP} {g : pG} {σ : pM} (hP : Clo (pCall d) yX6_follow cX6_follow (some .int) 2 0 0 Q P) (hG : gAll g) (h : ∃ (s1 : pM), Ca d yX6_finds [vR (some 166)] g σ [] g s1 ∧ iR (s1 166 8) ∧ (1 ≤ (s1 166 8) → ∃ (s2 : pM), Ca d yX6_minds [vR (some 166)] g s1 [] g s2 ∧ ∃ (v3 : Int) (s4 : pM), Ca d yX6_pours [vR (some 166), vI 0, vI (s1 172 0)] g s2 [vI v3] g s4 ∧ iR v3 ∧ (v3 = 0 → Q [vI ((-1000000003))] g s4) ∧ (¬ (v3 = 0) → Q [vI (s1 172 0)] g s4)) ∧ (¬ (1 ≤ (s1 166 8)) → Q [vI ((-1000000003))] g s1)) : P 0 [(0, vR (some 166))] [] g σ 0 0 := by
  refine x_aloadn hP 1 0 dX6_follow_0 rfl rfl mm0 ?_
  obtain ⟨s1, hc, h⟩ := h
  refine x_cv hP 4 [] [] dX6_follow_1 rfl (hG.O_166) (by decide) rfl ml_RX6_105 im_X6_finds se_X6_finds it_RX6 pp_X6_finds bd_X6_finds rfl rfl ⟨Nat.le_refl _, Nat.le_refl _⟩ (by simp [pC]) hc ?_
  refine x_aloadn hP 5 0 dX6_follow_4 rfl rfl mm0 ?_
  refine x_geti hP 8 dX6_follow_5 rfl fl_RX6_86 (hG.O_166) (by decide) rfl ?_
  refine x_iconst hP 9 dX6_follow_8 rfl ?_
  obtain ⟨hs1, h⟩ := h
  refine x_icmp hP 12 15 (1 ≤ (s1 166 8)) dX6_follow_9 rfl rfl hs1 (by decide) rfl (fun hbr => ?_) (fun hbr => ?_)
  · replace h := h.1 hbr
    refine x_aloadn hP 16 0 dX6_follow_15 rfl rfl mm0 ?_
    refine x_getr hP 19 172 dX6_follow_16 rfl fl_RX6_26 (hG.O_166) (by decide) rfl (hG.R_166_11) ?_
    refine x_iconst hP 20 dX6_follow_19 rfl ?_
    refine x_iald hP 21 dX6_follow_20 rfl (hG.A_172) (by decide) (by decide) ?_
    refine x_istoren hP 22 1 [(0, vR (some 166)), (1, vI (s1 172 0))] dX6_follow_21 rfl rfl (by decide) rfl rfl ?_
    refine x_aloadn hP 23 0 dX6_follow_22 rfl rfl mm0 ?_
    obtain ⟨s2, hc, h⟩ := h
    refine x_cv hP 26 [] [] dX6_follow_23 rfl (hG.O_166) (by decide) rfl ml_RX6_152 im_X6_minds se_X6_minds it_RX6 pp_X6_minds bd_X6_minds rfl rfl ⟨Nat.le_refl _, Nat.le_refl _⟩ (by simp [pC]) hc ?_
    refine x_aloadn hP 27 0 dX6_follow_26 rfl rfl mm0 ?_
    refine x_iconst hP 28 dX6_follow_27 rfl ?_
    refine x_iloadn hP 29 1 dX6_follow_28 rfl rfl mm1 ?_
    obtain ⟨v3, s4, hc, h⟩ := h
    refine x_cv hP 32 [vI 0, vI (s1 172 0)] [] dX6_follow_29 rfl (hG.O_166) (by decide) rfl ml_RX6_99 im_X6_pours se_X6_pours it_RX6 pp_X6_pours bd_X6_pours rfl rfl ⟨Nat.le_refl _, Nat.le_refl _⟩ (by simp [pC]) hc ?_
    obtain ⟨hs1, h⟩ := h
    refine x_ifc hP 35 39 (v3 = 0) dX6_follow_32 rfl rfl hs1 rfl (fun hbr => ?_) (fun hbr => ?_)
    · replace h := h.1 hbr
      refine x_ldc hP 41 dX6_follow_39 rfl kc_RX6_165 ?_
      exact x_iret hP dX6_follow_41 ⟨Nat.le_refl _, Nat.le_refl _⟩ h
    · replace h := h.2 hbr
      refine x_iloadn hP 36 1 dX6_follow_35 rfl rfl mm1 ?_
      refine x_goto hP 41 dX6_follow_36 rfl ?_
      exact x_iret hP dX6_follow_41 ⟨Nat.le_refl _, Nat.le_refl _⟩ h
  · replace h := h.2 hbr
    refine x_ldc hP 14 dX6_follow_12 rfl kc_RX6_165 ?_
    exact x_iret hP dX6_follow_14 ⟨Nat.le_refl _, Nat.le_refl _⟩ h
theorem k_X6_draw_0 {d : Nat} {Q : pQ} {P : pP} {g : pG} {σ : pM} (hP : Clo (pCall d) yX6_draw cX6_draw (some .int) 2 0 0 Q P) (a : Int) (hG : gAll g) (h : iR (σ 166 4) ∧ jR (((σ 166 4) * 1103515245) + 12345) ∧ 0 ≤ (Int.tmod (((σ 166 4) * 1103515245) + 12345) 2147483648) ∧ iR ((up2 σ 166 4 (Int.tmod (((σ 166 4) * 1103515245) + 12345) 2147483648)) 166 4) ∧ (iR (Int.tdiv ((up2 σ 166 4 (Int.tmod (((σ 166 4) * 1103515245) + 12345) 2147483648)) 166 4) 65536) ∧ iR a ∧ a ≠ 0) ∧ Q [vI (Int.tmod (Int.tdiv ((up2 σ 166 4 (Int.tmod (((σ 166 4) * 1103515245) + 12345) 2147483648)) 166 4) 65536) a)] g (up2 σ 166 4 (Int.tmod (((σ 166 4) * 1103515245) + 12345) 2147483648))) : P 0 [(0, vR (some 166)), (1, vI a)] [] g σ 0 0 := by
  refine x_aloadn hP 1 0 dX6_draw_0 rfl rfl mm0 ?_
  refine x_aloadn hP 2 0 dX6_draw_1 rfl rfl mm0 ?_
  refine x_geti hP 5 dX6_draw_2 rfl fl_RX6_172 (hG.O_166) (by decide) rfl ?_
  obtain ⟨hs, h⟩ := h
  refine x_i2l hP 6 dX6_draw_5 rfl hs ?_
  refine x_ldc2 hP 9 dX6_draw_6 rfl kl_RX6_175 ?_
  refine x_lmul hP 10 dX6_draw_9 rfl ?_
  refine x_ldc2 hP 13 dX6_draw_10 rfl kl_RX6_177 ?_
  refine x_ladd hP 14 dX6_draw_13 rfl ?_
  refine x_ldc2 hP 17 dX6_draw_14 rfl kl_RX6_179 ?_
  obtain ⟨hs, h⟩ := h
  refine x_lrem hP 18 dX6_draw_17 rfl hs (by decide) (by decide) ?_
  obtain ⟨hs, h⟩ := h
  refine x_l2i hP 19 dX6_draw_18 rfl hs ?_
  refine x_putf hP 22 dX6_draw_19 rfl fl_RX6_172 (hG.O_166) (by decide) rfl rfl (fun hz => absurd hz (by decide)) ?_
  refine x_aloadn hP 23 0 dX6_draw_22 rfl rfl mm0 ?_
  refine x_geti hP 26 dX6_draw_23 rfl fl_RX6_172 (hG.O_166) (by decide) rfl ?_
  refine x_ldc hP 28 dX6_draw_26 rfl kc_RX6_181 ?_
  obtain ⟨hs, h⟩ := h
  refine x_idiv hP 29 dX6_draw_28 rfl hs (by decide) (by decide) ?_
  refine x_iloadn hP 30 1 dX6_draw_29 rfl rfl mm1 ?_
  obtain ⟨hs, h⟩ := h
  refine x_irem hP 31 dX6_draw_30 rfl hs.1 hs.2.1 hs.2.2 ?_
  exact x_iret hP dX6_draw_31 ⟨Nat.le_refl _, Nat.le_refl _⟩ h
theorem k_X6_draws_0 {d : Nat} {Q : pQ} {P : pP} {g : pG} {σ : pM} (hP : Clo (pCall d) yX6_draws cX6_draws none 6 0 0 Q P) (hG : gAll g) (h : ∃ (s1 : pM), Ca d yX6_minds [vR (some 166)] g σ [] g s1 ∧ ∃ (v2 : Int) (s3 : pM), Ca d yX6_draw [vR (some 166), vI 4] g s1 [vI v2] g s3 ∧ ∃ (v4 : Int), Ca d yX6_cells [vR (some 166)] g s3 [vI v4] g s3 ∧ ∃ (v5 : Int) (s6 : pM), Ca d yX6_draw [vR (some 166), vI v4] g s3 [vI v5] g s6 ∧ ∃ (v7 : Int) (s8 : pM), Ca d yX6_draw [vR (some 166), vI 30] g s6 [vI v7] g s8 ∧ ∃ (v9 : Int) (s10 : pM), Ca d yX6_draw [vR (some 166), vI 4] g s8 [vI v9] g s10 ∧ iR v2 ∧ (2 ≤ v2 → iR v2 ∧ (¬ v2 = 2 → ∃ (v11 : Int), Ca d yX6_isPoured [vR (some 166), vI 0, vI v5] g s10 [vI v11] g s10 ∧ iR v11 ∧ (¬ v11 = 0 → Q [] g s10) ∧ (¬ (¬ v11 = 0) → iR v9 ∧ (v9 ≤ 1 → (0 ≤ (25 + v5) ∧ (25 + v5) < 1300) ∧ Q [] g (up2 s10 167 (Int.toNat (25 + v5)) 1)) ∧ (¬ (v9 ≤ 1) → (0 ≤ (25 + v5) ∧ (25 + v5) < 1300) ∧ Q [] g (up2 s10 167 (Int.toNat (25 + v5)) v9)))) ∧ (¬ (¬ v2 = 2) → ∃ (v12 : Int) (s13 : pM), Ca d yX6_pours [vR (some 166), vI 0, vI v5] g s10 [vI v12] g s13 ∧ iR v12 ∧ (v12 = 0 → Q [] g s13) ∧ (¬ (v12 = 0) → Q [] g s13))) ∧ (¬ (2 ≤ v2) → iR (s10 167 3) ∧ (9 ≤ (s10 167 3) → Q [] g s10) ∧ (¬ (9 ≤ (s10 167 3)) → iR ((s10 167 2) + v7) ∧ (99 < ((s10 167 2) + v7) → Q [] g s10) ∧ (¬ (99 < ((s10 167 2) + v7)) → ∃ (s14 : pM), Ca d yX6_comes [vR (some 166), vI ((s10 167 2) + v7), vI (v9 + 1)] g s10 [] g s14 ∧ Q [] g s14)))) : P 0 [(0, vR (some 166))] [] g σ 0 0 := by
  refine x_aloadn hP 1 0 dX6_draws_0 rfl rfl mm0 ?_
  obtain ⟨s1, hc, h⟩ := h
  refine x_cv hP 4 [] [] dX6_draws_1 rfl (hG.O_166) (by decide) rfl ml_RX6_152 im_X6_minds se_X6_minds it_RX6 pp_X6_minds bd_X6_minds rfl rfl ⟨Nat.le_refl _, Nat.le_refl _⟩ (by simp [pC]) hc ?_
  refine x_aloadn hP 5 0 dX6_draws_4 rfl rfl mm0 ?_
  refine x_iconst hP 6 dX6_draws_5 rfl ?_
  obtain ⟨v2, s3, hc, h⟩ := h
  refine x_cv hP 9 [vI 4] [] dX6_draws_6 rfl (hG.O_166) (by decide) rfl ml_RX6_182 im_X6_draw se_X6_draw it_RX6 pp_X6_draw bd_X6_draw rfl rfl ⟨Nat.le_refl _, Nat.le_refl _⟩ (by simp [pC]) hc ?_
  refine x_istoren hP 10 1 [(0, vR (some 166)), (1, vI v2)] dX6_draws_9 rfl rfl (by decide) rfl rfl ?_
  refine x_aloadn hP 11 0 dX6_draws_10 rfl rfl mm0 ?_
  refine x_aloadn hP 12 0 dX6_draws_11 rfl rfl mm0 ?_
  obtain ⟨v4, hc, h⟩ := h
  refine x_cv hP 15 [] [vR (some 166)] dX6_draws_12 rfl (hG.O_166) (by decide) rfl ml_RX6_46 im_X6_cells se_X6_cells it_RX6 pp_X6_cells bd_X6_cells rfl rfl ⟨Nat.le_refl _, Nat.le_refl _⟩ (by simp [pC]) hc ?_
  obtain ⟨v5, s6, hc, h⟩ := h
  refine x_cv hP 18 [vI v4] [] dX6_draws_15 rfl (hG.O_166) (by decide) rfl ml_RX6_182 im_X6_draw se_X6_draw it_RX6 pp_X6_draw bd_X6_draw rfl rfl ⟨Nat.le_refl _, Nat.le_refl _⟩ (by simp [pC]) hc ?_
  refine x_istoren hP 19 2 [(0, vR (some 166)), (1, vI v2), (2, vI v5)] dX6_draws_18 rfl rfl (by decide) rfl rfl ?_
  refine x_aloadn hP 20 0 dX6_draws_19 rfl rfl mm0 ?_
  refine x_bipush hP 22 dX6_draws_20 rfl (by decide) ?_
  obtain ⟨v7, s8, hc, h⟩ := h
  refine x_cv hP 25 [vI 30] [] dX6_draws_22 rfl (hG.O_166) (by decide) rfl ml_RX6_182 im_X6_draw se_X6_draw it_RX6 pp_X6_draw bd_X6_draw rfl rfl ⟨Nat.le_refl _, Nat.le_refl _⟩ (by simp [pC]) hc ?_
  refine x_istoren hP 26 3 [(0, vR (some 166)), (1, vI v2), (2, vI v5), (3, vI v7)] dX6_draws_25 rfl rfl (by decide) rfl rfl ?_
  refine x_aloadn hP 27 0 dX6_draws_26 rfl rfl mm0 ?_
  refine x_iconst hP 28 dX6_draws_27 rfl ?_
  obtain ⟨v9, s10, hc, h⟩ := h
  refine x_cv hP 31 [vI 4] [] dX6_draws_28 rfl (hG.O_166) (by decide) rfl ml_RX6_182 im_X6_draw se_X6_draw it_RX6 pp_X6_draw bd_X6_draw rfl rfl ⟨Nat.le_refl _, Nat.le_refl _⟩ (by simp [pC]) hc ?_
  refine x_istore hP 33 [(0, vR (some 166)), (1, vI v2), (2, vI v5), (3, vI v7), (4, vI v9)] dX6_draws_31 rfl (by decide) rfl rfl ?_
  refine x_iloadn hP 34 1 dX6_draws_33 rfl rfl mm1 ?_
  refine x_iconst hP 35 dX6_draws_34 rfl ?_
  obtain ⟨hs1, h⟩ := h
  refine x_icmp hP 38 81 (2 ≤ v2) dX6_draws_35 rfl rfl hs1 (by decide) rfl (fun hbr => ?_) (fun hbr => ?_)
  · replace h := h.1 hbr
    refine x_iloadn hP 82 1 dX6_draws_81 rfl rfl mm1 ?_
    refine x_iconst hP 83 dX6_draws_82 rfl ?_
    obtain ⟨hs1, h⟩ := h
    refine x_icmp hP 86 108 (¬ v2 = 2) dX6_draws_83 rfl rfl hs1 (by decide) rfl (fun hbr => ?_) (fun hbr => ?_)
    · replace h := h.1 hbr
      refine x_aloadn hP 109 0 dX6_draws_108 rfl rfl mm0 ?_
      refine x_iconst hP 110 dX6_draws_109 rfl ?_
      refine x_iloadn hP 111 2 dX6_draws_110 rfl rfl mm2 ?_
      obtain ⟨v11, hc, h⟩ := h
      refine x_cv hP 114 [vI 0, vI v5] [] dX6_draws_111 rfl (hG.O_166) (by decide) rfl ml_RX6_54 im_X6_isPoured se_X6_isPoured it_RX6 pp_X6_isPoured bd_X6_isPoured rfl rfl ⟨Nat.le_refl _, Nat.le_refl _⟩ (by simp [pC]) hc ?_
      obtain ⟨hs1, h⟩ := h
      refine x_ifc hP 117 138 (¬ v11 = 0) dX6_draws_114 rfl rfl hs1 rfl (fun hbr => ?_) (fun hbr => ?_)
      · replace h := h.1 hbr
        exact x_vret hP dX6_draws_138 ⟨Nat.le_refl _, Nat.le_refl _⟩ h
      · replace h := h.2 hbr
        refine x_aloadn hP 118 0 dX6_draws_117 rfl rfl mm0 ?_
        refine x_getr hP 121 167 dX6_draws_118 rfl fl_RX6_7 (hG.O_166) (by decide) rfl (hG.R_166_0) ?_
        refine x_bipush hP 123 dX6_draws_121 rfl (by decide) ?_
        refine x_iloadn hP 124 2 dX6_draws_123 rfl rfl mm2 ?_
        refine x_iadd hP 125 dX6_draws_124 rfl ?_
        refine x_iload hP 127 dX6_draws_125 rfl mm4 ?_
        refine x_iconst hP 128 dX6_draws_127 rfl ?_
        obtain ⟨hs1, h⟩ := h
        refine x_icmp hP 131 136 (v9 ≤ 1) dX6_draws_128 rfl rfl hs1 (by decide) rfl (fun hbr => ?_) (fun hbr => ?_)
        · replace h := h.1 hbr
          refine x_iconst hP 137 dX6_draws_136 rfl ?_
          obtain ⟨hs1, h⟩ := h
          refine x_iast hP 138 dX6_draws_137 rfl (hG.A_167) (by decide) hs1 ?_
          exact x_vret hP dX6_draws_138 ⟨Nat.le_refl _, Nat.le_refl _⟩ h
        · replace h := h.2 hbr
          refine x_iload hP 133 dX6_draws_131 rfl mm4 ?_
          refine x_goto hP 137 dX6_draws_133 rfl ?_
          obtain ⟨hs1, h⟩ := h
          refine x_iast hP 138 dX6_draws_137 rfl (hG.A_167) (by decide) hs1 ?_
          exact x_vret hP dX6_draws_138 ⟨Nat.le_refl _, Nat.le_refl _⟩ h
    · replace h := h.2 hbr
      refine x_aloadn hP 87 0 dX6_draws_86 rfl rfl mm0 ?_
      refine x_iconst hP 88 dX6_draws_87 rfl ?_
      refine x_iloadn hP 89 2 dX6_draws_88 rfl rfl mm2 ?_
      obtain ⟨v12, s13, hc, h⟩ := h
      refine x_cv hP 92 [vI 0, vI v5] [] dX6_draws_89 rfl (hG.O_166) (by decide) rfl ml_RX6_99 im_X6_pours se_X6_pours it_RX6 pp_X6_pours bd_X6_pours rfl rfl ⟨Nat.le_refl _, Nat.le_refl _⟩ (by simp [pC]) hc ?_
      refine x_istore hP 94 [(0, vR (some 166)), (1, vI v2), (2, vI v5), (3, vI v7), (4, vI v9), (5, vI v12)] dX6_draws_92 rfl (by decide) rfl rfl ?_
      refine x_iload hP 96 dX6_draws_94 rfl mm5 ?_
      obtain ⟨hs1, h⟩ := h
      refine x_ifc hP 99 103 (v12 = 0) dX6_draws_96 rfl rfl hs1 rfl (fun hbr => ?_) (fun hbr => ?_)
      · replace h := h.1 hbr
        refine x_iconst hP 104 dX6_draws_103 rfl ?_
        refine x_istoren hP 105 3 [(0, vR (some 166)), (1, vI v2), (2, vI v5), (3, vI 0), (4, vI v9), (5, vI v12)] dX6_draws_104 rfl rfl (by decide) rfl rfl ?_
        refine x_goto hP 138 dX6_draws_105 rfl ?_
        exact x_vret hP dX6_draws_138 ⟨Nat.le_refl _, Nat.le_refl _⟩ h
      · replace h := h.2 hbr
        refine x_iconst hP 100 dX6_draws_99 rfl ?_
        refine x_goto hP 104 dX6_draws_100 rfl ?_
        refine x_istoren hP 105 3 [(0, vR (some 166)), (1, vI v2), (2, vI v5), (3, vI 1), (4, vI v9), (5, vI v12)] dX6_draws_104 rfl rfl (by decide) rfl rfl ?_
        refine x_goto hP 138 dX6_draws_105 rfl ?_
        exact x_vret hP dX6_draws_138 ⟨Nat.le_refl _, Nat.le_refl _⟩ h
  · replace h := h.2 hbr
    refine x_aloadn hP 39 0 dX6_draws_38 rfl rfl mm0 ?_
    refine x_getr hP 42 167 dX6_draws_39 rfl fl_RX6_7 (hG.O_166) (by decide) rfl (hG.R_166_0) ?_
    refine x_iconst hP 43 dX6_draws_42 rfl ?_
    refine x_iald hP 44 dX6_draws_43 rfl (hG.A_167) (by decide) (by decide) ?_
    refine x_bipush hP 46 dX6_draws_44 rfl (by decide) ?_
    obtain ⟨hs1, h⟩ := h
    refine x_icmp hP 49 138 (9 ≤ (s10 167 3)) dX6_draws_46 rfl rfl hs1 (by decide) rfl (fun hbr => ?_) (fun hbr => ?_)
    · replace h := h.1 hbr
      exact x_vret hP dX6_draws_138 ⟨Nat.le_refl _, Nat.le_refl _⟩ h
    · replace h := h.2 hbr
      refine x_aloadn hP 50 0 dX6_draws_49 rfl rfl mm0 ?_
      refine x_getr hP 53 167 dX6_draws_50 rfl fl_RX6_7 (hG.O_166) (by decide) rfl (hG.R_166_0) ?_
      refine x_iconst hP 54 dX6_draws_53 rfl ?_
      refine x_iald hP 55 dX6_draws_54 rfl (hG.A_167) (by decide) (by decide) ?_
      refine x_iloadn hP 56 3 dX6_draws_55 rfl rfl mm3 ?_
      refine x_iadd hP 57 dX6_draws_56 rfl ?_
      refine x_bipush hP 59 dX6_draws_57 rfl (by decide) ?_
      obtain ⟨hs1, h⟩ := h
      refine x_icmp hP 62 138 (99 < ((s10 167 2) + v7)) dX6_draws_59 rfl rfl hs1 (by decide) rfl (fun hbr => ?_) (fun hbr => ?_)
      · replace h := h.1 hbr
        exact x_vret hP dX6_draws_138 ⟨Nat.le_refl _, Nat.le_refl _⟩ h
      · replace h := h.2 hbr
        refine x_aloadn hP 63 0 dX6_draws_62 rfl rfl mm0 ?_
        refine x_aloadn hP 64 0 dX6_draws_63 rfl rfl mm0 ?_
        refine x_getr hP 67 167 dX6_draws_64 rfl fl_RX6_7 (hG.O_166) (by decide) rfl (hG.R_166_0) ?_
        refine x_iconst hP 68 dX6_draws_67 rfl ?_
        refine x_iald hP 69 dX6_draws_68 rfl (hG.A_167) (by decide) (by decide) ?_
        refine x_iloadn hP 70 3 dX6_draws_69 rfl rfl mm3 ?_
        refine x_iadd hP 71 dX6_draws_70 rfl ?_
        refine x_iload hP 73 dX6_draws_71 rfl mm4 ?_
        refine x_iconst hP 74 dX6_draws_73 rfl ?_
        refine x_iadd hP 75 dX6_draws_74 rfl ?_
        obtain ⟨s14, hc, h⟩ := h
        refine x_cv hP 78 [vI ((s10 167 2) + v7), vI (v9 + 1)] [] dX6_draws_75 rfl (hG.O_166) (by decide) rfl ml_RX6_160 im_X6_comes se_X6_comes it_RX6 pp_X6_comes bd_X6_comes rfl rfl ⟨Nat.le_refl _, Nat.le_refl _⟩ (by simp [pC]) hc ?_
        refine x_goto hP 138 dX6_draws_78 rfl ?_
        exact x_vret hP dX6_draws_138 ⟨Nat.le_refl _, Nat.le_refl _⟩ h
theorem k_X6_drift_0 {d : Nat} {Q : pQ} {P : pP} {g : pG} {σ : pM} (hP : Clo (pCall d) yX6_drift cX6_drift (some .int) 3 0 0 Q P) (a : Int) (hG : gAll g) (h : iR a ∧ ∃ (v1 : Int), Ca d yX6_in [vJ a, vJ 1, vJ 20] g σ [vI v1] g σ ∧ iR v1 ∧ (¬ v1 = 0 → P 17 [(0, vR (some 166)), (1, vI a), (2, vI 0)] [] g σ 0 0) ∧ (¬ (¬ v1 = 0) → Q [vI ((-1000000002))] g σ)) : P 0 [(0, vR (some 166)), (1, vI a)] [] g σ 0 0 := by
  refine x_iloadn hP 1 1 dX6_drift_0 rfl rfl mm1 ?_
  obtain ⟨hs, h⟩ := h
  refine x_i2l hP 2 dX6_drift_1 rfl hs ?_
  refine x_lconst hP 3 dX6_drift_2 rfl ?_
  refine x_ldc2 hP 6 dX6_drift_3 rfl kl_RX6_185 ?_
  obtain ⟨v1, hc, h⟩ := h
  refine x_cs hP 9 [vJ a, vJ 1, vJ 20] [] dX6_drift_6 rfl ml_RX6_50 sm_X6_in it_RX6 pp_X6_in bd_X6_in rfl rfl ⟨Nat.le_refl _, Nat.le_refl _⟩ (by simp [pC]) hc ?_
  obtain ⟨hs1, h⟩ := h
  refine x_ifc hP 12 15 (¬ v1 = 0) dX6_drift_9 rfl rfl hs1 rfl (fun hbr => ?_) (fun hbr => ?_)
  · replace h := h.1 hbr
    refine x_iconst hP 16 dX6_drift_15 rfl ?_
    refine x_istoren hP 17 2 [(0, vR (some 166)), (1, vI a), (2, vI 0)] dX6_drift_16 rfl rfl (by decide) rfl rfl ?_
    exact h
  · replace h := h.2 hbr
    refine x_ldc hP 14 dX6_drift_12 rfl kc_RX6_132 ?_
    exact x_iret hP dX6_drift_14 ⟨Nat.le_refl _, Nat.le_refl _⟩ h
theorem k_X6_drift_17 {d : Nat} {Q : pQ} {P : pP} {g : pG} {σ : pM} (hP : Clo (pCall d) yX6_drift cX6_drift (some .int) 3 0 0 Q P) (x1 : Int) (x2 : Int) (hG : gAll g) (h : iR x2 ∧ iR x1 ∧ (x1 ≤ x2 → ∃ (v1 : Int), Ca d yX6_poured [vR (some 166)] g σ [vI v1] g σ ∧ ∃ (v2 : Int), Ca d yX6_ones [vI v1] g σ [vI v2] g σ ∧ Q [vI v2] g σ) ∧ (¬ (x1 ≤ x2) → ∃ (s3 : pM), Ca d yX6_draws [vR (some 166)] g σ [] g s3 ∧ P 17 [(0, vR (some 166)), (1, vI x1), (2, vI (x2 + 1))] [] g s3 0 0)) : P 17 [(0, vR (some 166)), (1, vI x1), (2, vI x2)] [] g σ 0 0 := by
  refine x_iloadn hP 18 2 dX6_drift_17 rfl rfl mm2 ?_
  refine x_iloadn hP 19 1 dX6_drift_18 rfl rfl mm1 ?_
  obtain ⟨hs1, hs2, h⟩ := h
  refine x_icmp hP 22 32 (x1 ≤ x2) dX6_drift_19 rfl rfl hs1 hs2 rfl (fun hbr => ?_) (fun hbr => ?_)
  · replace h := h.1 hbr
    refine x_aloadn hP 33 0 dX6_drift_32 rfl rfl mm0 ?_
    obtain ⟨v1, hc, h⟩ := h
    refine x_cv hP 36 [] [] dX6_drift_33 rfl (hG.O_166) (by decide) rfl ml_RX6_111 im_X6_poured se_X6_poured it_RX6 pp_X6_poured bd_X6_poured rfl rfl ⟨Nat.le_refl _, Nat.le_refl _⟩ (by simp [pC]) hc ?_
    obtain ⟨v2, hc, h⟩ := h
    refine x_cs hP 39 [vI v1] [] dX6_drift_36 rfl ml_RX6_149 sm_X6_ones it_RX6 pp_X6_ones bd_X6_ones rfl rfl ⟨Nat.le_refl _, Nat.le_refl _⟩ (by simp [pC]) hc ?_
    exact x_iret hP dX6_drift_39 ⟨Nat.le_refl _, Nat.le_refl _⟩ h
  · replace h := h.2 hbr
    refine x_aloadn hP 23 0 dX6_drift_22 rfl rfl mm0 ?_
    obtain ⟨s3, hc, h⟩ := h
    refine x_cv hP 26 [] [] dX6_drift_23 rfl (hG.O_166) (by decide) rfl ml_RX6_187 im_X6_draws se_X6_draws it_RX6 pp_X6_draws bd_X6_draws rfl rfl ⟨Nat.le_refl _, Nat.le_refl _⟩ (by simp [pC]) hc ?_
    refine x_iinc hP 29 [(0, vR (some 166)), (1, vI x1), (2, vI (x2 + 1))] dX6_drift_26 rfl mm2 (by decide) rfl rfl ?_
    refine x_goto hP 17 dX6_drift_29 rfl ?_
    exact h
theorem k_X6_undo_0 {d : Nat} {Q : pQ} {P : pP} {g : pG} {σ : pM} (hP : Clo (pCall d) yX6_undo cX6_undo (some .int) 2 0 0 Q P) (a : Int) (hG : gAll g) (h : iR a ∧ ∃ (v1 : Int), Ca d yX6_in [vJ a, vJ 1, vJ 20] g σ [vI v1] g σ ∧ iR v1 ∧ (¬ v1 = 0 → iR a ∧ iR (σ 166 3) ∧ (a ≤ (σ 166 3) → ∃ (s2 : pM), Ca d yX6_copy [vR (some 166), vI (260 + (52 * ((up2 σ 166 3 ((σ 166 3) - a)) 166 3))), vI 0] g (up2 σ 166 3 ((σ 166 3) - a)) [] g s2 ∧ Q [vI (s2 167 2)] g s2) ∧ (¬ (a ≤ (σ 166 3)) → Q [vI ((-1000000003))] g σ)) ∧ (¬ (¬ v1 = 0) → Q [vI ((-1000000002))] g σ)) : P 0 [(0, vR (some 166)), (1, vI a)] [] g σ 0 0 := by
  refine x_iloadn hP 1 1 dX6_undo_0 rfl rfl mm1 ?_
  obtain ⟨hs, h⟩ := h
  refine x_i2l hP 2 dX6_undo_1 rfl hs ?_
  refine x_lconst hP 3 dX6_undo_2 rfl ?_
  refine x_ldc2 hP 6 dX6_undo_3 rfl kl_RX6_185 ?_
  obtain ⟨v1, hc, h⟩ := h
  refine x_cs hP 9 [vJ a, vJ 1, vJ 20] [] dX6_undo_6 rfl ml_RX6_50 sm_X6_in it_RX6 pp_X6_in bd_X6_in rfl rfl ⟨Nat.le_refl _, Nat.le_refl _⟩ (by simp [pC]) hc ?_
  obtain ⟨hs1, h⟩ := h
  refine x_ifc hP 12 15 (¬ v1 = 0) dX6_undo_9 rfl rfl hs1 rfl (fun hbr => ?_) (fun hbr => ?_)
  · replace h := h.1 hbr
    refine x_iloadn hP 16 1 dX6_undo_15 rfl rfl mm1 ?_
    refine x_aloadn hP 17 0 dX6_undo_16 rfl rfl mm0 ?_
    refine x_geti hP 20 dX6_undo_17 rfl fl_RX6_39 (hG.O_166) (by decide) rfl ?_
    obtain ⟨hs1, hs2, h⟩ := h
    refine x_icmp hP 23 26 (a ≤ (σ 166 3)) dX6_undo_20 rfl rfl hs1 hs2 rfl (fun hbr => ?_) (fun hbr => ?_)
    · replace h := h.1 hbr
      refine x_aloadn hP 27 0 dX6_undo_26 rfl rfl mm0 ?_
      refine x_dup hP 28 dX6_undo_27 rfl rfl ?_
      refine x_geti hP 31 dX6_undo_28 rfl fl_RX6_39 (hG.O_166) (by decide) rfl ?_
      refine x_iloadn hP 32 1 dX6_undo_31 rfl rfl mm1 ?_
      refine x_isub hP 33 dX6_undo_32 rfl ?_
      refine x_putf hP 36 dX6_undo_33 rfl fl_RX6_39 (hG.O_166) (by decide) rfl rfl (fun hz => absurd hz (by decide)) ?_
      refine x_aloadn hP 37 0 dX6_undo_36 rfl rfl mm0 ?_
      refine x_sipush hP 40 dX6_undo_37 rfl (by decide) ?_
      refine x_bipush hP 42 dX6_undo_40 rfl (by decide) ?_
      refine x_aloadn hP 43 0 dX6_undo_42 rfl rfl mm0 ?_
      refine x_geti hP 46 dX6_undo_43 rfl fl_RX6_39 (hG.O_166) (by decide) rfl ?_
      refine x_imul hP 47 dX6_undo_46 rfl ?_
      refine x_iadd hP 48 dX6_undo_47 rfl ?_
      refine x_iconst hP 49 dX6_undo_48 rfl ?_
      obtain ⟨s2, hc, h⟩ := h
      refine x_cv hP 52 [vI (260 + (52 * ((up2 σ 166 3 ((σ 166 3) - a)) 166 3))), vI 0] [] dX6_undo_49 rfl (hG.O_166) (by decide) rfl ml_RX6_43 im_X6_copy se_X6_copy it_RX6 pp_X6_copy bd_X6_copy rfl rfl ⟨Nat.le_refl _, Nat.le_refl _⟩ (by simp [pC]) hc ?_
      refine x_aloadn hP 53 0 dX6_undo_52 rfl rfl mm0 ?_
      refine x_getr hP 56 167 dX6_undo_53 rfl fl_RX6_7 (hG.O_166) (by decide) rfl (hG.R_166_0) ?_
      refine x_iconst hP 57 dX6_undo_56 rfl ?_
      refine x_iald hP 58 dX6_undo_57 rfl (hG.A_167) (by decide) (by decide) ?_
      exact x_iret hP dX6_undo_58 ⟨Nat.le_refl _, Nat.le_refl _⟩ h
    · replace h := h.2 hbr
      refine x_ldc hP 25 dX6_undo_23 rfl kc_RX6_165 ?_
      exact x_iret hP dX6_undo_25 ⟨Nat.le_refl _, Nat.le_refl _⟩ h
  · replace h := h.2 hbr
    refine x_ldc hP 14 dX6_undo_12 rfl kc_RX6_132 ?_
    exact x_iret hP dX6_undo_14 ⟨Nat.le_refl _, Nat.le_refl _⟩ h
theorem k_X6_best_0 {d : Nat} {Q : pQ} {P : pP} {g : pG} {σ : pM} (hP : Clo (pCall d) yX6_best cX6_best (some .int) 2 0 0 Q P) (a : Int) (hG : gAll g) (h : ∃ (s1 : pM), Ca d yX6_finds [vR (some 166)] g σ [] g s1 ∧ iR a ∧ iR ((s1 166 8) - 1) ∧ ∃ (v2 : Int), Ca d yX6_in [vJ a, vJ 0, vJ ((s1 166 8) - 1)] g s1 [vI v2] g s1 ∧ iR v2 ∧ (v2 = 0 → Q [vI ((-1))] g s1) ∧ (¬ (v2 = 0) → (0 ≤ a ∧ a < 9) ∧ Q [vI (s1 172 (Int.toNat a))] g s1)) : P 0 [(0, vR (some 166)), (1, vI a)] [] g σ 0 0 := by
  refine x_aloadn hP 1 0 dX6_best_0 rfl rfl mm0 ?_
  obtain ⟨s1, hc, h⟩ := h
  refine x_cv hP 4 [] [] dX6_best_1 rfl (hG.O_166) (by decide) rfl ml_RX6_105 im_X6_finds se_X6_finds it_RX6 pp_X6_finds bd_X6_finds rfl rfl ⟨Nat.le_refl _, Nat.le_refl _⟩ (by simp [pC]) hc ?_
  refine x_iloadn hP 5 1 dX6_best_4 rfl rfl mm1 ?_
  obtain ⟨hs, h⟩ := h
  refine x_i2l hP 6 dX6_best_5 rfl hs ?_
  refine x_lconst hP 7 dX6_best_6 rfl ?_
  refine x_aloadn hP 8 0 dX6_best_7 rfl rfl mm0 ?_
  refine x_geti hP 11 dX6_best_8 rfl fl_RX6_86 (hG.O_166) (by decide) rfl ?_
  refine x_iconst hP 12 dX6_best_11 rfl ?_
  refine x_isub hP 13 dX6_best_12 rfl ?_
  obtain ⟨hs, h⟩ := h
  refine x_i2l hP 14 dX6_best_13 rfl hs ?_
  obtain ⟨v2, hc, h⟩ := h
  refine x_cs hP 17 [vJ a, vJ 0, vJ ((s1 166 8) - 1)] [] dX6_best_14 rfl ml_RX6_50 sm_X6_in it_RX6 pp_X6_in bd_X6_in rfl rfl ⟨Nat.le_refl _, Nat.le_refl _⟩ (by simp [pC]) hc ?_
  obtain ⟨hs1, h⟩ := h
  refine x_ifc hP 20 29 (v2 = 0) dX6_best_17 rfl rfl hs1 rfl (fun hbr => ?_) (fun hbr => ?_)
  · replace h := h.1 hbr
    refine x_iconst hP 30 dX6_best_29 rfl ?_
    exact x_iret hP dX6_best_30 ⟨Nat.le_refl _, Nat.le_refl _⟩ h
  · replace h := h.2 hbr
    refine x_aloadn hP 21 0 dX6_best_20 rfl rfl mm0 ?_
    refine x_getr hP 24 172 dX6_best_21 rfl fl_RX6_26 (hG.O_166) (by decide) rfl (hG.R_166_11) ?_
    refine x_iloadn hP 25 1 dX6_best_24 rfl rfl mm1 ?_
    obtain ⟨hs, h⟩ := h
    refine x_iald hP 26 dX6_best_25 rfl (hG.A_172) (by decide) hs ?_
    refine x_goto hP 30 dX6_best_26 rfl ?_
    exact x_iret hP dX6_best_30 ⟨Nat.le_refl _, Nat.le_refl _⟩ h
theorem k_X6_stop_0 {d : Nat} {Q : pQ} {P : pP} {g : pG} {σ : pM} (hP : Clo (pCall d) yX6_stop cX6_stop (some .int) 7 0 0 Q P) (a : Int) (hG : gAll g) (h : iR a ∧ ∃ (v1 : Int), Ca d yX6_in [vJ a, vJ 0, vJ 1] g σ [vI v1] g σ ∧ iR v1 ∧ (¬ v1 = 0 → ∃ (s2 : pM), Ca d yX6_finds [vR (some 166)] g σ [] g s2 ∧ iR (s2 166 8) ∧ (¬ (s2 166 8) = ((-1)) → ∃ (s3 : pM), Ca d yX6_copy [vR (some 166), vI 0, vI 52] g s2 [] g s3 ∧ ∃ (v4 : Int), Ca d yX6_harm [vR (some 166), vI 52, vI 1] g s3 [vI v4] g s3 ∧ P 47 [(0, vR (some 166)), (1, vI a), (2, vI v4), (3, vI 0), (4, vI 0)] [] g s3 0 0) ∧ (¬ (¬ (s2 166 8) = ((-1))) → Q [vI ((-1))] g s2)) ∧ (¬ (¬ v1 = 0) → Q [vI ((-1000000002))] g σ)) : P 0 [(0, vR (some 166)), (1, vI a)] [] g σ 0 0 := by
  refine x_iloadn hP 1 1 dX6_stop_0 rfl rfl mm1 ?_
  obtain ⟨hs, h⟩ := h
  refine x_i2l hP 2 dX6_stop_1 rfl hs ?_
  refine x_lconst hP 3 dX6_stop_2 rfl ?_
  refine x_lconst hP 4 dX6_stop_3 rfl ?_
  obtain ⟨v1, hc, h⟩ := h
  refine x_cs hP 7 [vJ a, vJ 0, vJ 1] [] dX6_stop_4 rfl ml_RX6_50 sm_X6_in it_RX6 pp_X6_in bd_X6_in rfl rfl ⟨Nat.le_refl _, Nat.le_refl _⟩ (by simp [pC]) hc ?_
  obtain ⟨hs1, h⟩ := h
  refine x_ifc hP 10 13 (¬ v1 = 0) dX6_stop_7 rfl rfl hs1 rfl (fun hbr => ?_) (fun hbr => ?_)
  · replace h := h.1 hbr
    refine x_aloadn hP 14 0 dX6_stop_13 rfl rfl mm0 ?_
    obtain ⟨s2, hc, h⟩ := h
    refine x_cv hP 17 [] [] dX6_stop_14 rfl (hG.O_166) (by decide) rfl ml_RX6_105 im_X6_finds se_X6_finds it_RX6 pp_X6_finds bd_X6_finds rfl rfl ⟨Nat.le_refl _, Nat.le_refl _⟩ (by simp [pC]) hc ?_
    refine x_aloadn hP 18 0 dX6_stop_17 rfl rfl mm0 ?_
    refine x_geti hP 21 dX6_stop_18 rfl fl_RX6_86 (hG.O_166) (by decide) rfl ?_
    refine x_iconst hP 22 dX6_stop_21 rfl ?_
    obtain ⟨hs1, h⟩ := h
    refine x_icmp hP 25 27 (¬ (s2 166 8) = ((-1))) dX6_stop_22 rfl rfl hs1 (by decide) rfl (fun hbr => ?_) (fun hbr => ?_)
    · replace h := h.1 hbr
      refine x_aloadn hP 28 0 dX6_stop_27 rfl rfl mm0 ?_
      refine x_iconst hP 29 dX6_stop_28 rfl ?_
      refine x_bipush hP 31 dX6_stop_29 rfl (by decide) ?_
      obtain ⟨s3, hc, h⟩ := h
      refine x_cv hP 34 [vI 0, vI 52] [] dX6_stop_31 rfl (hG.O_166) (by decide) rfl ml_RX6_43 im_X6_copy se_X6_copy it_RX6 pp_X6_copy bd_X6_copy rfl rfl ⟨Nat.le_refl _, Nat.le_refl _⟩ (by simp [pC]) hc ?_
      refine x_aloadn hP 35 0 dX6_stop_34 rfl rfl mm0 ?_
      refine x_bipush hP 37 dX6_stop_35 rfl (by decide) ?_
      refine x_iconst hP 38 dX6_stop_37 rfl ?_
      obtain ⟨v4, hc, h⟩ := h
      refine x_cv hP 41 [vI 52, vI 1] [] dX6_stop_38 rfl (hG.O_166) (by decide) rfl ml_RX6_82 im_X6_harm se_X6_harm it_RX6 pp_X6_harm bd_X6_harm rfl rfl ⟨Nat.le_refl _, Nat.le_refl _⟩ (by simp [pC]) hc ?_
      refine x_istoren hP 42 2 [(0, vR (some 166)), (1, vI a), (2, vI v4)] dX6_stop_41 rfl rfl (by decide) rfl rfl ?_
      refine x_iconst hP 43 dX6_stop_42 rfl ?_
      refine x_istoren hP 44 3 [(0, vR (some 166)), (1, vI a), (2, vI v4), (3, vI 0)] dX6_stop_43 rfl rfl (by decide) rfl rfl ?_
      refine x_iconst hP 45 dX6_stop_44 rfl ?_
      refine x_istore hP 47 [(0, vR (some 166)), (1, vI a), (2, vI v4), (3, vI 0), (4, vI 0)] dX6_stop_45 rfl (by decide) rfl rfl ?_
      exact h
    · replace h := h.2 hbr
      refine x_iconst hP 26 dX6_stop_25 rfl ?_
      exact x_iret hP dX6_stop_26 ⟨Nat.le_refl _, Nat.le_refl _⟩ h
  · replace h := h.2 hbr
    refine x_ldc hP 12 dX6_stop_10 rfl kc_RX6_132 ?_
    exact x_iret hP dX6_stop_12 ⟨Nat.le_refl _, Nat.le_refl _⟩ h
theorem k_X6_stop_47 {d : Nat} {Q : pQ} {P : pP} {g : pG} {σ : pM} (hP : Clo (pCall d) yX6_stop cX6_stop (some .int) 7 0 0 Q P) (x1 : Int) (x2 : Int) (x3 : Int) (x4 : Int) (hG : gAll g) (h : iR x4 ∧ iR (σ 166 8) ∧ ((σ 166 8) ≤ x4 → iR x1 ∧ (¬ x1 = 0 → Q [vI x3] g σ) ∧ (¬ (¬ x1 = 0) → Q [vI x2] g σ)) ∧ (¬ ((σ 166 8) ≤ x4) → (0 ≤ x4 ∧ x4 < 9) ∧ ∃ (v1 : Int) (s2 : pM), Ca d yX6_pours [vR (some 166), vI 52, vI (σ 172 (Int.toNat x4))] g σ [vI v1] g s2 ∧ iR v1 ∧ (v1 = 0 → iR x2 ∧ iR x2 ∧ (x2 ≤ x2 → iR x2 ∧ iR x2 ∧ (x2 ≤ x2 → P 47 [(0, vR (some 166)), (1, vI x1), (2, vI x2), (3, vI x3), (4, vI (x4 + 1))] [] g s2 0 0) ∧ (¬ (x2 ≤ x2) → P 47 [(0, vR (some 166)), (1, vI x1), (2, vI x2), (3, vI x3), (4, vI (x4 + 1))] [] g s2 0 0)) ∧ (¬ (x2 ≤ x2) → iR x2 ∧ iR x2 ∧ (x2 ≤ x2 → P 47 [(0, vR (some 166)), (1, vI x1), (2, vI x2), (3, vI (x4 + 1)), (4, vI (x4 + 1))] [] g s2 0 0) ∧ (¬ (x2 ≤ x2) → P 47 [(0, vR (some 166)), (1, vI x1), (2, vI x2), (3, vI (x4 + 1)), (4, vI (x4 + 1))] [] g s2 0 0))) ∧ (¬ (v1 = 0) → ∃ (v3 : Int), Ca d yX6_harm [vR (some 166), vI 52, vI 1] g s2 [vI v3] g s2 ∧ iR v3 ∧ iR x2 ∧ (x2 ≤ v3 → iR v3 ∧ iR x2 ∧ (x2 ≤ v3 → P 47 [(0, vR (some 166)), (1, vI x1), (2, vI x2), (3, vI x3), (4, vI (x4 + 1))] [] g s2 0 0) ∧ (¬ (x2 ≤ v3) → P 47 [(0, vR (some 166)), (1, vI x1), (2, vI v3), (3, vI x3), (4, vI (x4 + 1))] [] g s2 0 0)) ∧ (¬ (x2 ≤ v3) → iR v3 ∧ iR x2 ∧ (x2 ≤ v3 → P 47 [(0, vR (some 166)), (1, vI x1), (2, vI x2), (3, vI (x4 + 1)), (4, vI (x4 + 1))] [] g s2 0 0) ∧ (¬ (x2 ≤ v3) → P 47 [(0, vR (some 166)), (1, vI x1), (2, vI v3), (3, vI (x4 + 1)), (4, vI (x4 + 1))] [] g s2 0 0))))) : P 47 [(0, vR (some 166)), (1, vI x1), (2, vI x2), (3, vI x3), (4, vI x4)] [] g σ 0 0 := by
  refine x_iload hP 49 dX6_stop_47 rfl mm4 ?_
  refine x_aloadn hP 50 0 dX6_stop_49 rfl rfl mm0 ?_
  refine x_geti hP 53 dX6_stop_50 rfl fl_RX6_86 (hG.O_166) (by decide) rfl ?_
  obtain ⟨hs1, hs2, h⟩ := h
  refine x_icmp hP 56 123 ((σ 166 8) ≤ x4) dX6_stop_53 rfl rfl hs1 hs2 rfl (fun hbr => ?_) (fun hbr => ?_)
  · replace h := h.1 hbr
    refine x_iloadn hP 124 1 dX6_stop_123 rfl rfl mm1 ?_
    obtain ⟨hs1, h⟩ := h
    refine x_ifc hP 127 131 (¬ x1 = 0) dX6_stop_124 rfl rfl hs1 rfl (fun hbr => ?_) (fun hbr => ?_)
    · replace h := h.1 hbr
      refine x_iloadn hP 132 3 dX6_stop_131 rfl rfl mm3 ?_
      exact x_iret hP dX6_stop_132 ⟨Nat.le_refl _, Nat.le_refl _⟩ h
    · replace h := h.2 hbr
      refine x_iloadn hP 128 2 dX6_stop_127 rfl rfl mm2 ?_
      refine x_goto hP 132 dX6_stop_128 rfl ?_
      exact x_iret hP dX6_stop_132 ⟨Nat.le_refl _, Nat.le_refl _⟩ h
  · replace h := h.2 hbr
    refine x_aloadn hP 57 0 dX6_stop_56 rfl rfl mm0 ?_
    refine x_bipush hP 59 dX6_stop_57 rfl (by decide) ?_
    refine x_aloadn hP 60 0 dX6_stop_59 rfl rfl mm0 ?_
    refine x_getr hP 63 172 dX6_stop_60 rfl fl_RX6_26 (hG.O_166) (by decide) rfl (hG.R_166_11) ?_
    refine x_iload hP 65 dX6_stop_63 rfl mm4 ?_
    obtain ⟨hs, h⟩ := h
    refine x_iald hP 66 dX6_stop_65 rfl (hG.A_172) (by decide) hs ?_
    obtain ⟨v1, s2, hc, h⟩ := h
    refine x_cv hP 69 [vI 52, vI (σ 172 (Int.toNat x4))] [] dX6_stop_66 rfl (hG.O_166) (by decide) rfl ml_RX6_99 im_X6_pours se_X6_pours it_RX6 pp_X6_pours bd_X6_pours rfl rfl ⟨Nat.le_refl _, Nat.le_refl _⟩ (by simp [pC]) hc ?_
    refine x_istore hP 71 [(0, vR (some 166)), (1, vI x1), (2, vI x2), (3, vI x3), (4, vI x4), (5, vI v1)] dX6_stop_69 rfl (by decide) rfl rfl ?_
    refine x_iload hP 73 dX6_stop_71 rfl mm5 ?_
    obtain ⟨hs1, h⟩ := h
    refine x_ifc hP 76 86 (v1 = 0) dX6_stop_73 rfl rfl hs1 rfl (fun hbr => ?_) (fun hbr => ?_)
    · replace h := h.1 hbr
      refine x_iloadn hP 87 2 dX6_stop_86 rfl rfl mm2 ?_
      refine x_istore hP 89 [(0, vR (some 166)), (1, vI x1), (2, vI x2), (3, vI x3), (4, vI x4), (5, vI v1), (6, vI x2)] dX6_stop_87 rfl (by decide) rfl rfl ?_
      refine x_iload hP 91 dX6_stop_89 rfl mm6 ?_
      refine x_iloadn hP 92 2 dX6_stop_91 rfl rfl mm2 ?_
      obtain ⟨hs1, hs2, h⟩ := h
      refine x_icmp hP 95 102 (x2 ≤ x2) dX6_stop_92 rfl rfl hs1 hs2 rfl (fun hbr => ?_) (fun hbr => ?_)
      · replace h := h.1 hbr
        refine x_iloadn hP 103 3 dX6_stop_102 rfl rfl mm3 ?_
        refine x_istoren hP 104 3 [(0, vR (some 166)), (1, vI x1), (2, vI x2), (3, vI x3), (4, vI x4), (5, vI v1), (6, vI x2)] dX6_stop_103 rfl rfl (by decide) rfl rfl ?_
        refine x_iload hP 106 dX6_stop_104 rfl mm6 ?_
        refine x_iloadn hP 107 2 dX6_stop_106 rfl rfl mm2 ?_
        obtain ⟨hs1, hs2, h⟩ := h
        refine x_icmp hP 110 115 (x2 ≤ x2) dX6_stop_107 rfl rfl hs1 hs2 rfl (fun hbr => ?_) (fun hbr => ?_)
        · replace h := h.1 hbr
          refine x_iloadn hP 116 2 dX6_stop_115 rfl rfl mm2 ?_
          refine x_istoren hP 117 2 [(0, vR (some 166)), (1, vI x1), (2, vI x2), (3, vI x3), (4, vI x4), (5, vI v1), (6, vI x2)] dX6_stop_116 rfl rfl (by decide) rfl rfl ?_
          refine x_iinc hP 120 [(0, vR (some 166)), (1, vI x1), (2, vI x2), (3, vI x3), (4, vI (x4 + 1)), (5, vI v1), (6, vI x2)] dX6_stop_117 rfl mm4 (by decide) rfl rfl ?_
          refine x_goto hP 47 dX6_stop_120 rfl ?_
          exact x_sub hP [0, 1, 2, 3, 4] rfl h
        · replace h := h.2 hbr
          refine x_iload hP 112 dX6_stop_110 rfl mm6 ?_
          refine x_goto hP 116 dX6_stop_112 rfl ?_
          refine x_istoren hP 117 2 [(0, vR (some 166)), (1, vI x1), (2, vI x2), (3, vI x3), (4, vI x4), (5, vI v1), (6, vI x2)] dX6_stop_116 rfl rfl (by decide) rfl rfl ?_
          refine x_iinc hP 120 [(0, vR (some 166)), (1, vI x1), (2, vI x2), (3, vI x3), (4, vI (x4 + 1)), (5, vI v1), (6, vI x2)] dX6_stop_117 rfl mm4 (by decide) rfl rfl ?_
          refine x_goto hP 47 dX6_stop_120 rfl ?_
          exact x_sub hP [0, 1, 2, 3, 4] rfl h
      · replace h := h.2 hbr
        refine x_iload hP 97 dX6_stop_95 rfl mm4 ?_
        refine x_iconst hP 98 dX6_stop_97 rfl ?_
        refine x_iadd hP 99 dX6_stop_98 rfl ?_
        refine x_goto hP 103 dX6_stop_99 rfl ?_
        refine x_istoren hP 104 3 [(0, vR (some 166)), (1, vI x1), (2, vI x2), (3, vI (x4 + 1)), (4, vI x4), (5, vI v1), (6, vI x2)] dX6_stop_103 rfl rfl (by decide) rfl rfl ?_
        refine x_iload hP 106 dX6_stop_104 rfl mm6 ?_
        refine x_iloadn hP 107 2 dX6_stop_106 rfl rfl mm2 ?_
        obtain ⟨hs1, hs2, h⟩ := h
        refine x_icmp hP 110 115 (x2 ≤ x2) dX6_stop_107 rfl rfl hs1 hs2 rfl (fun hbr => ?_) (fun hbr => ?_)
        · replace h := h.1 hbr
          refine x_iloadn hP 116 2 dX6_stop_115 rfl rfl mm2 ?_
          refine x_istoren hP 117 2 [(0, vR (some 166)), (1, vI x1), (2, vI x2), (3, vI (x4 + 1)), (4, vI x4), (5, vI v1), (6, vI x2)] dX6_stop_116 rfl rfl (by decide) rfl rfl ?_
          refine x_iinc hP 120 [(0, vR (some 166)), (1, vI x1), (2, vI x2), (3, vI (x4 + 1)), (4, vI (x4 + 1)), (5, vI v1), (6, vI x2)] dX6_stop_117 rfl mm4 (by decide) rfl rfl ?_
          refine x_goto hP 47 dX6_stop_120 rfl ?_
          exact x_sub hP [0, 1, 2, 3, 4] rfl h
        · replace h := h.2 hbr
          refine x_iload hP 112 dX6_stop_110 rfl mm6 ?_
          refine x_goto hP 116 dX6_stop_112 rfl ?_
          refine x_istoren hP 117 2 [(0, vR (some 166)), (1, vI x1), (2, vI x2), (3, vI (x4 + 1)), (4, vI x4), (5, vI v1), (6, vI x2)] dX6_stop_116 rfl rfl (by decide) rfl rfl ?_
          refine x_iinc hP 120 [(0, vR (some 166)), (1, vI x1), (2, vI x2), (3, vI (x4 + 1)), (4, vI (x4 + 1)), (5, vI v1), (6, vI x2)] dX6_stop_117 rfl mm4 (by decide) rfl rfl ?_
          refine x_goto hP 47 dX6_stop_120 rfl ?_
          exact x_sub hP [0, 1, 2, 3, 4] rfl h
    · replace h := h.2 hbr
      refine x_aloadn hP 77 0 dX6_stop_76 rfl rfl mm0 ?_
      refine x_bipush hP 79 dX6_stop_77 rfl (by decide) ?_
      refine x_iconst hP 80 dX6_stop_79 rfl ?_
      obtain ⟨v3, hc, h⟩ := h
      refine x_cv hP 83 [vI 52, vI 1] [] dX6_stop_80 rfl (hG.O_166) (by decide) rfl ml_RX6_82 im_X6_harm se_X6_harm it_RX6 pp_X6_harm bd_X6_harm rfl rfl ⟨Nat.le_refl _, Nat.le_refl _⟩ (by simp [pC]) hc ?_
      refine x_goto hP 87 dX6_stop_83 rfl ?_
      refine x_istore hP 89 [(0, vR (some 166)), (1, vI x1), (2, vI x2), (3, vI x3), (4, vI x4), (5, vI v1), (6, vI v3)] dX6_stop_87 rfl (by decide) rfl rfl ?_
      refine x_iload hP 91 dX6_stop_89 rfl mm6 ?_
      refine x_iloadn hP 92 2 dX6_stop_91 rfl rfl mm2 ?_
      obtain ⟨hs1, hs2, h⟩ := h
      refine x_icmp hP 95 102 (x2 ≤ v3) dX6_stop_92 rfl rfl hs1 hs2 rfl (fun hbr => ?_) (fun hbr => ?_)
      · replace h := h.1 hbr
        refine x_iloadn hP 103 3 dX6_stop_102 rfl rfl mm3 ?_
        refine x_istoren hP 104 3 [(0, vR (some 166)), (1, vI x1), (2, vI x2), (3, vI x3), (4, vI x4), (5, vI v1), (6, vI v3)] dX6_stop_103 rfl rfl (by decide) rfl rfl ?_
        refine x_iload hP 106 dX6_stop_104 rfl mm6 ?_
        refine x_iloadn hP 107 2 dX6_stop_106 rfl rfl mm2 ?_
        obtain ⟨hs1, hs2, h⟩ := h
        refine x_icmp hP 110 115 (x2 ≤ v3) dX6_stop_107 rfl rfl hs1 hs2 rfl (fun hbr => ?_) (fun hbr => ?_)
        · replace h := h.1 hbr
          refine x_iloadn hP 116 2 dX6_stop_115 rfl rfl mm2 ?_
          refine x_istoren hP 117 2 [(0, vR (some 166)), (1, vI x1), (2, vI x2), (3, vI x3), (4, vI x4), (5, vI v1), (6, vI v3)] dX6_stop_116 rfl rfl (by decide) rfl rfl ?_
          refine x_iinc hP 120 [(0, vR (some 166)), (1, vI x1), (2, vI x2), (3, vI x3), (4, vI (x4 + 1)), (5, vI v1), (6, vI v3)] dX6_stop_117 rfl mm4 (by decide) rfl rfl ?_
          refine x_goto hP 47 dX6_stop_120 rfl ?_
          exact x_sub hP [0, 1, 2, 3, 4] rfl h
        · replace h := h.2 hbr
          refine x_iload hP 112 dX6_stop_110 rfl mm6 ?_
          refine x_goto hP 116 dX6_stop_112 rfl ?_
          refine x_istoren hP 117 2 [(0, vR (some 166)), (1, vI x1), (2, vI v3), (3, vI x3), (4, vI x4), (5, vI v1), (6, vI v3)] dX6_stop_116 rfl rfl (by decide) rfl rfl ?_
          refine x_iinc hP 120 [(0, vR (some 166)), (1, vI x1), (2, vI v3), (3, vI x3), (4, vI (x4 + 1)), (5, vI v1), (6, vI v3)] dX6_stop_117 rfl mm4 (by decide) rfl rfl ?_
          refine x_goto hP 47 dX6_stop_120 rfl ?_
          exact x_sub hP [0, 1, 2, 3, 4] rfl h
      · replace h := h.2 hbr
        refine x_iload hP 97 dX6_stop_95 rfl mm4 ?_
        refine x_iconst hP 98 dX6_stop_97 rfl ?_
        refine x_iadd hP 99 dX6_stop_98 rfl ?_
        refine x_goto hP 103 dX6_stop_99 rfl ?_
        refine x_istoren hP 104 3 [(0, vR (some 166)), (1, vI x1), (2, vI x2), (3, vI (x4 + 1)), (4, vI x4), (5, vI v1), (6, vI v3)] dX6_stop_103 rfl rfl (by decide) rfl rfl ?_
        refine x_iload hP 106 dX6_stop_104 rfl mm6 ?_
        refine x_iloadn hP 107 2 dX6_stop_106 rfl rfl mm2 ?_
        obtain ⟨hs1, hs2, h⟩ := h
        refine x_icmp hP 110 115 (x2 ≤ v3) dX6_stop_107 rfl rfl hs1 hs2 rfl (fun hbr => ?_) (fun hbr => ?_)
        · replace h := h.1 hbr
          refine x_iloadn hP 116 2 dX6_stop_115 rfl rfl mm2 ?_
          refine x_istoren hP 117 2 [(0, vR (some 166)), (1, vI x1), (2, vI x2), (3, vI (x4 + 1)), (4, vI x4), (5, vI v1), (6, vI v3)] dX6_stop_116 rfl rfl (by decide) rfl rfl ?_
          refine x_iinc hP 120 [(0, vR (some 166)), (1, vI x1), (2, vI x2), (3, vI (x4 + 1)), (4, vI (x4 + 1)), (5, vI v1), (6, vI v3)] dX6_stop_117 rfl mm4 (by decide) rfl rfl ?_
          refine x_goto hP 47 dX6_stop_120 rfl ?_
          exact x_sub hP [0, 1, 2, 3, 4] rfl h
        · replace h := h.2 hbr
          refine x_iload hP 112 dX6_stop_110 rfl mm6 ?_
          refine x_goto hP 116 dX6_stop_112 rfl ?_
          refine x_istoren hP 117 2 [(0, vR (some 166)), (1, vI x1), (2, vI v3), (3, vI (x4 + 1)), (4, vI x4), (5, vI v1), (6, vI v3)] dX6_stop_116 rfl rfl (by decide) rfl rfl ?_
          refine x_iinc hP 120 [(0, vR (some 166)), (1, vI x1), (2, vI v3), (3, vI (x4 + 1)), (4, vI (x4 + 1)), (5, vI v1), (6, vI v3)] dX6_stop_117 rfl mm4 (by decide) rfl rfl ?_
          refine x_goto hP 47 dX6_stop_120 rfl ?_
          exact x_sub hP [0, 1, 2, 3, 4] rfl h
theorem k_X6_write_0 {d : Nat} {Q : pQ} {P : pP} {g : pG} {σ : pM} (hP : Clo (pCall d) yX6_write cX6_write (some .int) 3 0 0 Q P) (a : Int) (b : Int) (hG : gAll g) (h : ∃ (v1 : Int), Ca d yX6_beyond [vR (some 166), vI 0, vI a] g σ [vI v1] g σ ∧ iR v1 ∧ (¬ v1 = ((-1)) → iR (σ 166 5) ∧ (¬ (σ 166 5) = 20 → (0 ≤ (σ 166 5) ∧ (σ 166 5) < 20) ∧ (0 ≤ ((up2 σ 170 (Int.toNat (σ 166 5)) a) 166 5) ∧ ((up2 σ 170 (Int.toNat (σ 166 5)) a) 166 5) < 20) ∧ (b = 0 ∨ b = 1) ∧ Q [vI ((up2 (up2 (up2 σ 170 (Int.toNat (σ 166 5)) a) 171 (Int.toNat ((up2 σ 170 (Int.toNat (σ 166 5)) a) 166 5)) b) 166 5 (((up2 (up2 σ 170 (Int.toNat (σ 166 5)) a) 171 (Int.toNat ((up2 σ 170 (Int.toNat (σ 166 5)) a) 166 5)) b) 166 5) + 1)) 166 5)] g (up2 (up2 (up2 σ 170 (Int.toNat (σ 166 5)) a) 171 (Int.toNat ((up2 σ 170 (Int.toNat (σ 166 5)) a) 166 5)) b) 166 5 (((up2 (up2 σ 170 (Int.toNat (σ 166 5)) a) 171 (Int.toNat ((up2 σ 170 (Int.toNat (σ 166 5)) a) 166 5)) b) 166 5) + 1))) ∧ (¬ (¬ (σ 166 5) = 20) → Q [vI ((-1000000004))] g σ)) ∧ (¬ (¬ v1 = ((-1))) → Q [vI ((-1000000001))] g σ)) : P 0 [(0, vR (some 166)), (1, vI a), (2, vI b)] [] g σ 0 0 := by
  refine x_aloadn hP 1 0 dX6_write_0 rfl rfl mm0 ?_
  refine x_iconst hP 2 dX6_write_1 rfl ?_
  refine x_iloadn hP 3 1 dX6_write_2 rfl rfl mm1 ?_
  obtain ⟨v1, hc, h⟩ := h
  refine x_cv hP 6 [vI 0, vI a] [] dX6_write_3 rfl (hG.O_166) (by decide) rfl ml_RX6_70 im_X6_beyond se_X6_beyond it_RX6 pp_X6_beyond bd_X6_beyond rfl rfl ⟨Nat.le_refl _, Nat.le_refl _⟩ (by simp [pC]) hc ?_
  refine x_iconst hP 7 dX6_write_6 rfl ?_
  obtain ⟨hs1, h⟩ := h
  refine x_icmp hP 10 13 (¬ v1 = ((-1))) dX6_write_7 rfl rfl hs1 (by decide) rfl (fun hbr => ?_) (fun hbr => ?_)
  · replace h := h.1 hbr
    refine x_aloadn hP 14 0 dX6_write_13 rfl rfl mm0 ?_
    refine x_geti hP 17 dX6_write_14 rfl fl_RX6_108 (hG.O_166) (by decide) rfl ?_
    refine x_bipush hP 19 dX6_write_17 rfl (by decide) ?_
    obtain ⟨hs1, h⟩ := h
    refine x_icmp hP 22 25 (¬ (σ 166 5) = 20) dX6_write_19 rfl rfl hs1 (by decide) rfl (fun hbr => ?_) (fun hbr => ?_)
    · replace h := h.1 hbr
      refine x_aloadn hP 26 0 dX6_write_25 rfl rfl mm0 ?_
      refine x_getr hP 29 170 dX6_write_26 rfl fl_RX6_20 (hG.O_166) (by decide) rfl (hG.R_166_6) ?_
      refine x_aloadn hP 30 0 dX6_write_29 rfl rfl mm0 ?_
      refine x_geti hP 33 dX6_write_30 rfl fl_RX6_108 (hG.O_166) (by decide) rfl ?_
      refine x_iloadn hP 34 1 dX6_write_33 rfl rfl mm1 ?_
      obtain ⟨hs1, h⟩ := h
      refine x_iast hP 35 dX6_write_34 rfl (hG.A_170) (by decide) hs1 ?_
      refine x_aloadn hP 36 0 dX6_write_35 rfl rfl mm0 ?_
      refine x_getr hP 39 171 dX6_write_36 rfl fl_RX6_23 (hG.O_166) (by decide) rfl (hG.R_166_7) ?_
      refine x_aloadn hP 40 0 dX6_write_39 rfl rfl mm0 ?_
      refine x_geti hP 43 dX6_write_40 rfl fl_RX6_108 (hG.O_166) (by decide) rfl ?_
      refine x_iloadn hP 44 2 dX6_write_43 rfl rfl mm2 ?_
      obtain ⟨hs1, hs2, h⟩ := h
      refine x_zast hP 45 dX6_write_44 rfl (hG.A_171) (by decide) hs1 hs2 ?_
      refine x_aloadn hP 46 0 dX6_write_45 rfl rfl mm0 ?_
      refine x_dup hP 47 dX6_write_46 rfl rfl ?_
      refine x_geti hP 50 dX6_write_47 rfl fl_RX6_108 (hG.O_166) (by decide) rfl ?_
      refine x_iconst hP 51 dX6_write_50 rfl ?_
      refine x_iadd hP 52 dX6_write_51 rfl ?_
      refine x_putf hP 55 dX6_write_52 rfl fl_RX6_108 (hG.O_166) (by decide) rfl rfl (fun hz => absurd hz (by decide)) ?_
      refine x_aloadn hP 56 0 dX6_write_55 rfl rfl mm0 ?_
      refine x_geti hP 59 dX6_write_56 rfl fl_RX6_108 (hG.O_166) (by decide) rfl ?_
      exact x_iret hP dX6_write_59 ⟨Nat.le_refl _, Nat.le_refl _⟩ h
    · replace h := h.2 hbr
      refine x_ldc hP 24 dX6_write_22 rfl kc_RX6_159 ?_
      exact x_iret hP dX6_write_24 ⟨Nat.le_refl _, Nat.le_refl _⟩ h
  · replace h := h.2 hbr
    refine x_ldc hP 12 dX6_write_10 rfl kc_RX6_137 ?_
    exact x_iret hP dX6_write_12 ⟨Nat.le_refl _, Nat.le_refl _⟩ h
theorem k_X6_tear_0 {d : Nat} {Q : pQ} {P : pP} {g : pG} {σ : pM} (hP : Clo (pCall d) yX6_tear cX6_tear (some .int) 2 0 0 Q P) (hG : gAll g) (h : Q [vI (σ 166 5)] g (up2 σ 166 5 0)) : P 0 [(0, vR (some 166))] [] g σ 0 0 := by
  refine x_aloadn hP 1 0 dX6_tear_0 rfl rfl mm0 ?_
  refine x_geti hP 4 dX6_tear_1 rfl fl_RX6_108 (hG.O_166) (by decide) rfl ?_
  refine x_istoren hP 5 1 [(0, vR (some 166)), (1, vI (σ 166 5))] dX6_tear_4 rfl rfl (by decide) rfl rfl ?_
  refine x_aloadn hP 6 0 dX6_tear_5 rfl rfl mm0 ?_
  refine x_iconst hP 7 dX6_tear_6 rfl ?_
  refine x_putf hP 10 dX6_tear_7 rfl fl_RX6_108 (hG.O_166) (by decide) rfl rfl (fun hz => absurd hz (by decide)) ?_
  refine x_iloadn hP 11 1 dX6_tear_10 rfl rfl mm1 ?_
  exact x_iret hP dX6_tear_11 ⟨Nat.le_refl _, Nat.le_refl _⟩ h
theorem k_X6_seed_0 {d : Nat} {Q : pQ} {P : pP} {g : pG} {σ : pM} (hP : Clo (pCall d) yX6_seed cX6_seed (some .int) 3 0 0 Q P) (a : Int) (hG : gAll g) (h : iR a ∧ (0 ≤ a → Q [vI (σ 166 4)] g (up2 σ 166 4 a)) ∧ (¬ (0 ≤ a) → Q [vI ((-1000000002))] g σ)) : P 0 [(0, vR (some 166)), (1, vI a)] [] g σ 0 0 := by
  refine x_iloadn hP 1 1 dX6_seed_0 rfl rfl mm1 ?_
  obtain ⟨hs1, h⟩ := h
  refine x_ifc hP 4 7 (0 ≤ a) dX6_seed_1 rfl rfl hs1 rfl (fun hbr => ?_) (fun hbr => ?_)
  · replace h := h.1 hbr
    refine x_aloadn hP 8 0 dX6_seed_7 rfl rfl mm0 ?_
    refine x_geti hP 11 dX6_seed_8 rfl fl_RX6_172 (hG.O_166) (by decide) rfl ?_
    refine x_istoren hP 12 2 [(0, vR (some 166)), (1, vI a), (2, vI (σ 166 4))] dX6_seed_11 rfl rfl (by decide) rfl rfl ?_
    refine x_aloadn hP 13 0 dX6_seed_12 rfl rfl mm0 ?_
    refine x_iloadn hP 14 1 dX6_seed_13 rfl rfl mm1 ?_
    refine x_putf hP 17 dX6_seed_14 rfl fl_RX6_172 (hG.O_166) (by decide) rfl rfl (fun hz => absurd hz (by decide)) ?_
    refine x_iloadn hP 18 2 dX6_seed_17 rfl rfl mm2 ?_
    exact x_iret hP dX6_seed_18 ⟨Nat.le_refl _, Nat.le_refl _⟩ h
  · replace h := h.2 hbr
    refine x_ldc hP 6 dX6_seed_4 rfl kc_RX6_132 ?_
    exact x_iret hP dX6_seed_6 ⟨Nat.le_refl _, Nat.le_refl _⟩ h
theorem k_X6_keep_0 {d : Nat} {Q : pQ} {P : pP} {g : pG} {σ : pM} (hP : Clo (pCall d) yX6_keep cX6_keep (some .int) 2 0 0 Q P) (a : Int) (hG : gAll g) (h : iR a ∧ ∃ (v1 : Int), Ca d yX6_in [vJ a, vJ 0, vJ 1] g σ [vI v1] g σ ∧ iR v1 ∧ (¬ v1 = 0 → ∃ (s2 : pM), Ca d yX6_copy [vR (some 166), vI 0, vI (156 + (52 * a))] g σ [] g s2 ∧ (0 ≤ a ∧ a < 2) ∧ (0 ≤ a ∧ a < 2) ∧ Q [vI 1] g (up2 (up2 (up2 s2 168 (Int.toNat a) (s2 166 4)) 169 (Int.toNat a) 1) 166 3 0)) ∧ (¬ (¬ v1 = 0) → Q [vI ((-1000000001))] g σ)) : P 0 [(0, vR (some 166)), (1, vI a)] [] g σ 0 0 := by
  refine x_iloadn hP 1 1 dX6_keep_0 rfl rfl mm1 ?_
  obtain ⟨hs, h⟩ := h
  refine x_i2l hP 2 dX6_keep_1 rfl hs ?_
  refine x_lconst hP 3 dX6_keep_2 rfl ?_
  refine x_lconst hP 4 dX6_keep_3 rfl ?_
  obtain ⟨v1, hc, h⟩ := h
  refine x_cs hP 7 [vJ a, vJ 0, vJ 1] [] dX6_keep_4 rfl ml_RX6_50 sm_X6_in it_RX6 pp_X6_in bd_X6_in rfl rfl ⟨Nat.le_refl _, Nat.le_refl _⟩ (by simp [pC]) hc ?_
  obtain ⟨hs1, h⟩ := h
  refine x_ifc hP 10 13 (¬ v1 = 0) dX6_keep_7 rfl rfl hs1 rfl (fun hbr => ?_) (fun hbr => ?_)
  · replace h := h.1 hbr
    refine x_aloadn hP 14 0 dX6_keep_13 rfl rfl mm0 ?_
    refine x_iconst hP 15 dX6_keep_14 rfl ?_
    refine x_sipush hP 18 dX6_keep_15 rfl (by decide) ?_
    refine x_bipush hP 20 dX6_keep_18 rfl (by decide) ?_
    refine x_iloadn hP 21 1 dX6_keep_20 rfl rfl mm1 ?_
    refine x_imul hP 22 dX6_keep_21 rfl ?_
    refine x_iadd hP 23 dX6_keep_22 rfl ?_
    obtain ⟨s2, hc, h⟩ := h
    refine x_cv hP 26 [vI 0, vI (156 + (52 * a))] [] dX6_keep_23 rfl (hG.O_166) (by decide) rfl ml_RX6_43 im_X6_copy se_X6_copy it_RX6 pp_X6_copy bd_X6_copy rfl rfl ⟨Nat.le_refl _, Nat.le_refl _⟩ (by simp [pC]) hc ?_
    refine x_aloadn hP 27 0 dX6_keep_26 rfl rfl mm0 ?_
    refine x_getr hP 30 168 dX6_keep_27 rfl fl_RX6_13 (hG.O_166) (by decide) rfl (hG.R_166_1) ?_
    refine x_iloadn hP 31 1 dX6_keep_30 rfl rfl mm1 ?_
    refine x_aloadn hP 32 0 dX6_keep_31 rfl rfl mm0 ?_
    refine x_geti hP 35 dX6_keep_32 rfl fl_RX6_172 (hG.O_166) (by decide) rfl ?_
    obtain ⟨hs1, h⟩ := h
    refine x_iast hP 36 dX6_keep_35 rfl (hG.A_168) (by decide) hs1 ?_
    refine x_aloadn hP 37 0 dX6_keep_36 rfl rfl mm0 ?_
    refine x_getr hP 40 169 dX6_keep_37 rfl fl_RX6_16 (hG.O_166) (by decide) rfl (hG.R_166_2) ?_
    refine x_iloadn hP 41 1 dX6_keep_40 rfl rfl mm1 ?_
    refine x_iconst hP 42 dX6_keep_41 rfl ?_
    obtain ⟨hs1, h⟩ := h
    refine x_zast hP 43 dX6_keep_42 rfl (hG.A_169) (by decide) hs1 (by decide) ?_
    refine x_aloadn hP 44 0 dX6_keep_43 rfl rfl mm0 ?_
    refine x_iconst hP 45 dX6_keep_44 rfl ?_
    refine x_putf hP 48 dX6_keep_45 rfl fl_RX6_39 (hG.O_166) (by decide) rfl rfl (fun hz => absurd hz (by decide)) ?_
    refine x_iconst hP 49 dX6_keep_48 rfl ?_
    exact x_iret hP dX6_keep_49 ⟨Nat.le_refl _, Nat.le_refl _⟩ h
  · replace h := h.2 hbr
    refine x_ldc hP 12 dX6_keep_10 rfl kc_RX6_137 ?_
    exact x_iret hP dX6_keep_12 ⟨Nat.le_refl _, Nat.le_refl _⟩ h
theorem k_X6_goBack_0 {d : Nat} {Q : pQ} {P : pP} {g : pG} {σ : pM} (hP : Clo (pCall d) yX6_goBack cX6_goBack (some .int) 2 0 0 Q P) (a : Int) (hG : gAll g) (h : iR a ∧ ∃ (v1 : Int), Ca d yX6_in [vJ a, vJ 0, vJ 1] g σ [vI v1] g σ ∧ iR v1 ∧ (¬ v1 = 0 → (0 ≤ a ∧ a < 2) ∧ iR (σ 169 (Int.toNat a)) ∧ (¬ (σ 169 (Int.toNat a)) = 0 → ∃ (s2 : pM), Ca d yX6_copy [vR (some 166), vI (156 + (52 * a)), vI 0] g σ [] g s2 ∧ (0 ≤ a ∧ a < 2) ∧ Q [vI 1] g (up2 (up2 s2 166 4 (s2 168 (Int.toNat a))) 166 3 0)) ∧ (¬ (¬ (σ 169 (Int.toNat a)) = 0) → Q [vI ((-1000000003))] g σ)) ∧ (¬ (¬ v1 = 0) → Q [vI ((-1000000001))] g σ)) : P 0 [(0, vR (some 166)), (1, vI a)] [] g σ 0 0 := by
  refine x_iloadn hP 1 1 dX6_goBack_0 rfl rfl mm1 ?_
  obtain ⟨hs, h⟩ := h
  refine x_i2l hP 2 dX6_goBack_1 rfl hs ?_
  refine x_lconst hP 3 dX6_goBack_2 rfl ?_
  refine x_lconst hP 4 dX6_goBack_3 rfl ?_
  obtain ⟨v1, hc, h⟩ := h
  refine x_cs hP 7 [vJ a, vJ 0, vJ 1] [] dX6_goBack_4 rfl ml_RX6_50 sm_X6_in it_RX6 pp_X6_in bd_X6_in rfl rfl ⟨Nat.le_refl _, Nat.le_refl _⟩ (by simp [pC]) hc ?_
  obtain ⟨hs1, h⟩ := h
  refine x_ifc hP 10 13 (¬ v1 = 0) dX6_goBack_7 rfl rfl hs1 rfl (fun hbr => ?_) (fun hbr => ?_)
  · replace h := h.1 hbr
    refine x_aloadn hP 14 0 dX6_goBack_13 rfl rfl mm0 ?_
    refine x_getr hP 17 169 dX6_goBack_14 rfl fl_RX6_16 (hG.O_166) (by decide) rfl (hG.R_166_2) ?_
    refine x_iloadn hP 18 1 dX6_goBack_17 rfl rfl mm1 ?_
    obtain ⟨hs, h⟩ := h
    refine x_zald hP 19 dX6_goBack_18 rfl (hG.A_169) (by decide) hs ?_
    obtain ⟨hs1, h⟩ := h
    refine x_ifc hP 22 25 (¬ (σ 169 (Int.toNat a)) = 0) dX6_goBack_19 rfl rfl hs1 rfl (fun hbr => ?_) (fun hbr => ?_)
    · replace h := h.1 hbr
      refine x_aloadn hP 26 0 dX6_goBack_25 rfl rfl mm0 ?_
      refine x_sipush hP 29 dX6_goBack_26 rfl (by decide) ?_
      refine x_bipush hP 31 dX6_goBack_29 rfl (by decide) ?_
      refine x_iloadn hP 32 1 dX6_goBack_31 rfl rfl mm1 ?_
      refine x_imul hP 33 dX6_goBack_32 rfl ?_
      refine x_iadd hP 34 dX6_goBack_33 rfl ?_
      refine x_iconst hP 35 dX6_goBack_34 rfl ?_
      obtain ⟨s2, hc, h⟩ := h
      refine x_cv hP 38 [vI (156 + (52 * a)), vI 0] [] dX6_goBack_35 rfl (hG.O_166) (by decide) rfl ml_RX6_43 im_X6_copy se_X6_copy it_RX6 pp_X6_copy bd_X6_copy rfl rfl ⟨Nat.le_refl _, Nat.le_refl _⟩ (by simp [pC]) hc ?_
      refine x_aloadn hP 39 0 dX6_goBack_38 rfl rfl mm0 ?_
      refine x_aloadn hP 40 0 dX6_goBack_39 rfl rfl mm0 ?_
      refine x_getr hP 43 168 dX6_goBack_40 rfl fl_RX6_13 (hG.O_166) (by decide) rfl (hG.R_166_1) ?_
      refine x_iloadn hP 44 1 dX6_goBack_43 rfl rfl mm1 ?_
      obtain ⟨hs, h⟩ := h
      refine x_iald hP 45 dX6_goBack_44 rfl (hG.A_168) (by decide) hs ?_
      refine x_putf hP 48 dX6_goBack_45 rfl fl_RX6_172 (hG.O_166) (by decide) rfl rfl (fun hz => absurd hz (by decide)) ?_
      refine x_aloadn hP 49 0 dX6_goBack_48 rfl rfl mm0 ?_
      refine x_iconst hP 50 dX6_goBack_49 rfl ?_
      refine x_putf hP 53 dX6_goBack_50 rfl fl_RX6_39 (hG.O_166) (by decide) rfl rfl (fun hz => absurd hz (by decide)) ?_
      refine x_iconst hP 54 dX6_goBack_53 rfl ?_
      exact x_iret hP dX6_goBack_54 ⟨Nat.le_refl _, Nat.le_refl _⟩ h
    · replace h := h.2 hbr
      refine x_ldc hP 24 dX6_goBack_22 rfl kc_RX6_165 ?_
      exact x_iret hP dX6_goBack_24 ⟨Nat.le_refl _, Nat.le_refl _⟩ h
  · replace h := h.2 hbr
    refine x_ldc hP 12 dX6_goBack_10 rfl kc_RX6_137 ?_
    exact x_iret hP dX6_goBack_12 ⟨Nat.le_refl _, Nat.le_refl _⟩ h
