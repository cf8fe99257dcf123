/-! Walks, by program (wip/whole/gen.py) -/
theorem k_X5_told_0 {d : Nat} {Q : pQ} {P : pP} {g : pG} {σ : pM} (hP : Clo (pCall d) yX5_told cX5_told (some .int) 2 0 0 Q P) (a : Int) (hG : gAll g) (h : iR a ∧ ((a < 0 ∨ 19 < a) → Q [vI ((-1000000002))] g σ) ∧ (a = 0 → Q [vI (σ 2 0)] g σ) ∧ (a = 1 → Q [vI (σ 2 1)] g σ) ∧ (a = 2 → Q [vI (σ 2 3)] g σ) ∧ (a = 3 → Q [vI (σ 2 7)] g σ) ∧ (a = 4 → ∃ (v1 : Int), Ca d yX4_stock [vR (some 2)] g σ [vI v1] g σ ∧ Q [vI v1] g σ) ∧ (a = 5 → ∃ (v2 : Int), Ca d yX4_pouredSet [vR (some 2)] g σ [vI v2] g σ ∧ Q [vI v2] g σ) ∧ (a = 6 → ∃ (v3 : Int), Ca d yX4_canSet [vR (some 2)] g σ [vI v3] g σ ∧ Q [vI v3] g σ) ∧ (a = 7 → Q [vI (σ 2 4)] g σ) ∧ (a = 8 → Q [vI (σ 2 5)] g σ) ∧ (a = 9 → Q [vI (σ 2 6)] g σ) ∧ (a = 10 → ∃ (v4 : Int), Ca d yX4_joints [vR (some 2)] g σ [vI v4] g σ ∧ Q [vI v4] g σ) ∧ (a = 11 → ∃ (v5 : Int), Ca d yX4_harm [vR (some 2)] g σ [vI v5] g σ ∧ Q [vI v5] g σ) ∧ (a = 12 → ∃ (v6 : Int), Ca d yX4_firstToSet [vR (some 2)] g σ [vI v6] g σ ∧ Q [vI v6] g σ) ∧ (a = 13 → ∃ (s7 : pM), Ca d yX5_plan [vR (some 1)] g σ [vR (some 14)] g s7 ∧ ∃ (v8 : Int), Ca d yX3_leastHarm [vR (some 14)] g s7 [vI v8] g s7 ∧ Q [vI v8] g s7) ∧ (a = 14 → ∃ (s9 : pM), Ca d yX5_plan [vR (some 1)] g σ [vR (some 14)] g s9 ∧ ∃ (v10 : Int), Ca d yX3_earliestEnd [vR (some 14)] g s9 [vI v10] g s9 ∧ Q [vI v10] g s9) ∧ (a = 15 → ∃ (v11 : Int) (s12 : pM), Ca d yX5_mayWait [vR (some 1)] g σ [vI v11] g s12 ∧ Q [vI v11] g s12) ∧ (a = 16 → ∃ (v13 : Int), Ca d yX4_stoppedHarm [vR (some 2)] g σ [vI v13] g σ ∧ Q [vI v13] g σ) ∧ (a = 17 → Q [vI (σ 148 0)] g σ) ∧ (a = 18 → ∃ (v14 : Int), Ca d yX0_firstWrong [vR (some 148), vR (some 2)] g σ [vI v14] g σ ∧ Q [vI v14] g σ) ∧ (a = 19 → Q [vI (σ 26 0)] g σ)) : P 0 [(0, vR (some 1)), (1, vI a)] [] g σ 0 0 := by
  refine x_iloadn hP 1 1 dX5_told_0 rfl rfl mm1 ?_
  obtain ⟨hs, hd, hc0, hc1, hc2, hc3, hc4, hc5, hc6, hc7, hc8, hc9, hc10, hc11, hc12, hc13, hc14, hc15, hc16, hc17, hc18, hc19⟩ := h
  refine x_tsw hP 257 dX5_told_1 hs rfl (fun hbr => ?_) (fun hbr => ?_)
  · have h := hd hbr
    refine x_ldc hP 259 dX5_told_257 rfl kc_RX5_117 ?_
    exact x_iret hP dX5_told_259 ⟨Nat.le_refl _, Nat.le_refl _⟩ h
  · have hall : a = 0 ∨ a = 1 ∨ a = 2 ∨ a = 3 ∨ a = 4 ∨ a = 5 ∨ a = 6 ∨ a = 7 ∨ a = 8 ∨ a = 9 ∨ a = 10 ∨ a = 11 ∨ a = 12 ∨ a = 13 ∨ a = 14 ∨ a = 15 ∨ a = 16 ∨ a = 17 ∨ a = 18 ∨ a = 19 := by omega
    rcases hall with e | e | e | e | e | e | e | e | e | e | e | e | e | e | e | e | e | e | e | e
    · have h := hc0 e
      refine ⟨95, 96, by rw [e]; rfl, rfl, ?_⟩
      refine x_aloadn hP 97 0 dX5_told_96 rfl rfl mm0 ?_
      refine x_getr hP 100 2 dX5_told_97 rfl fl_RX5_10 (hG.O_1) (by decide) rfl (hG.R_1_0) ?_
      refine x_geti hP 103 dX5_told_100 rfl fl_RX5_50 (hG.W_2).o (by decide) rfl ?_
      exact x_iret hP dX5_told_103 ⟨Nat.le_refl _, Nat.le_refl _⟩ h
    · have h := hc1 e
      refine ⟨103, 104, by rw [e]; rfl, rfl, ?_⟩
      refine x_aloadn hP 105 0 dX5_told_104 rfl rfl mm0 ?_
      refine x_getr hP 108 2 dX5_told_105 rfl fl_RX5_10 (hG.O_1) (by decide) rfl (hG.R_1_0) ?_
      refine x_geti hP 111 dX5_told_108 rfl fl_RX5_54 (hG.W_2).o (by decide) rfl ?_
      exact x_iret hP dX5_told_111 ⟨Nat.le_refl _, Nat.le_refl _⟩ h
    · have h := hc2 e
      refine ⟨111, 112, by rw [e]; rfl, rfl, ?_⟩
      refine x_aloadn hP 113 0 dX5_told_112 rfl rfl mm0 ?_
      refine x_getr hP 116 2 dX5_told_113 rfl fl_RX5_10 (hG.O_1) (by decide) rfl (hG.R_1_0) ?_
      refine x_geti hP 119 dX5_told_116 rfl fl_RX5_57 (hG.W_2).o (by decide) rfl ?_
      exact x_iret hP dX5_told_119 ⟨Nat.le_refl _, Nat.le_refl _⟩ h
    · have h := hc3 e
      refine ⟨119, 120, by rw [e]; rfl, rfl, ?_⟩
      refine x_aloadn hP 121 0 dX5_told_120 rfl rfl mm0 ?_
      refine x_getr hP 124 2 dX5_told_121 rfl fl_RX5_10 (hG.O_1) (by decide) rfl (hG.R_1_0) ?_
      refine x_geti hP 127 dX5_told_124 rfl fl_RX5_60 (hG.W_2).o (by decide) rfl ?_
      exact x_iret hP dX5_told_127 ⟨Nat.le_refl _, Nat.le_refl _⟩ h
    · have h := hc4 e
      refine ⟨127, 128, by rw [e]; rfl, rfl, ?_⟩
      refine x_aloadn hP 129 0 dX5_told_128 rfl rfl mm0 ?_
      refine x_getr hP 132 2 dX5_told_129 rfl fl_RX5_10 (hG.O_1) (by decide) rfl (hG.R_1_0) ?_
      obtain ⟨v1, hc, h⟩ := h
      refine x_cv hP 135 [] [] dX5_told_132 rfl (hG.W_2).o (by decide) rfl ml_RX5_63 im_X4_stock se_X4_stock it_RX4 pp_X4_stock bd_X4_stock rfl rfl ⟨Nat.le_refl _, Nat.le_refl _⟩ (by simp [pC]) hc ?_
      exact x_iret hP dX5_told_135 ⟨Nat.le_refl _, Nat.le_refl _⟩ h
    · have h := hc5 e
      refine ⟨135, 136, by rw [e]; rfl, rfl, ?_⟩
      refine x_aloadn hP 137 0 dX5_told_136 rfl rfl mm0 ?_
      refine x_getr hP 140 2 dX5_told_137 rfl fl_RX5_10 (hG.O_1) (by decide) rfl (hG.R_1_0) ?_
      obtain ⟨v2, hc, h⟩ := h
      refine x_cv hP 143 [] [] dX5_told_140 rfl (hG.W_2).o (by decide) rfl ml_RX5_67 im_X4_pouredSet se_X4_pouredSet it_RX4 pp_X4_pouredSet bd_X4_pouredSet rfl rfl ⟨Nat.le_refl _, Nat.le_refl _⟩ (by simp [pC]) hc ?_
      exact x_iret hP dX5_told_143 ⟨Nat.le_refl _, Nat.le_refl _⟩ h
    · have h := hc6 e
      refine ⟨143, 144, by rw [e]; rfl, rfl, ?_⟩
      refine x_aloadn hP 145 0 dX5_told_144 rfl rfl mm0 ?_
      refine x_getr hP 148 2 dX5_told_145 rfl fl_RX5_10 (hG.O_1) (by decide) rfl (hG.R_1_0) ?_
      obtain ⟨v3, hc, h⟩ := h
      refine x_cv hP 151 [] [] dX5_told_148 rfl (hG.W_2).o (by decide) rfl ml_RX5_70 im_X4_canSet se_X4_canSet it_RX4 pp_X4_canSet bd_X4_canSet rfl rfl ⟨Nat.le_refl _, Nat.le_refl _⟩ (by simp [pC]) hc ?_
      exact x_iret hP dX5_told_151 ⟨Nat.le_refl _, Nat.le_refl _⟩ h
    · have h := hc7 e
      refine ⟨151, 152, by rw [e]; rfl, rfl, ?_⟩
      refine x_aloadn hP 153 0 dX5_told_152 rfl rfl mm0 ?_
      refine x_getr hP 156 2 dX5_told_153 rfl fl_RX5_10 (hG.O_1) (by decide) rfl (hG.R_1_0) ?_
      refine x_geti hP 159 dX5_told_156 rfl fl_RX5_73 (hG.W_2).o (by decide) rfl ?_
      exact x_iret hP dX5_told_159 ⟨Nat.le_refl _, Nat.le_refl _⟩ h
    · have h := hc8 e
      refine ⟨159, 160, by rw [e]; rfl, rfl, ?_⟩
      refine x_aloadn hP 161 0 dX5_told_160 rfl rfl mm0 ?_
      refine x_getr hP 164 2 dX5_told_161 rfl fl_RX5_10 (hG.O_1) (by decide) rfl (hG.R_1_0) ?_
      refine x_geti hP 167 dX5_told_164 rfl fl_RX5_76 (hG.W_2).o (by decide) rfl ?_
      exact x_iret hP dX5_told_167 ⟨Nat.le_refl _, Nat.le_refl _⟩ h
    · have h := hc9 e
      refine ⟨167, 168, by rw [e]; rfl, rfl, ?_⟩
      refine x_aloadn hP 169 0 dX5_told_168 rfl rfl mm0 ?_
      refine x_getr hP 172 2 dX5_told_169 rfl fl_RX5_10 (hG.O_1) (by decide) rfl (hG.R_1_0) ?_
      refine x_geti hP 175 dX5_told_172 rfl fl_RX5_79 (hG.W_2).o (by decide) rfl ?_
      exact x_iret hP dX5_told_175 ⟨Nat.le_refl _, Nat.le_refl _⟩ h
    · have h := hc10 e
      refine ⟨175, 176, by rw [e]; rfl, rfl, ?_⟩
      refine x_aloadn hP 177 0 dX5_told_176 rfl rfl mm0 ?_
      refine x_getr hP 180 2 dX5_told_177 rfl fl_RX5_10 (hG.O_1) (by decide) rfl (hG.R_1_0) ?_
      obtain ⟨v4, hc, h⟩ := h
      refine x_cv hP 183 [] [] dX5_told_180 rfl (hG.W_2).o (by decide) rfl ml_RX5_82 im_X4_joints se_X4_joints it_RX4 pp_X4_joints bd_X4_joints rfl rfl ⟨Nat.le_refl _, Nat.le_refl _⟩ (by simp [pC]) hc ?_
      exact x_iret hP dX5_told_183 ⟨Nat.le_refl _, Nat.le_refl _⟩ h
    · have h := hc11 e
      refine ⟨183, 184, by rw [e]; rfl, rfl, ?_⟩
      refine x_aloadn hP 185 0 dX5_told_184 rfl rfl mm0 ?_
      refine x_getr hP 188 2 dX5_told_185 rfl fl_RX5_10 (hG.O_1) (by decide) rfl (hG.R_1_0) ?_
      obtain ⟨v5, hc, h⟩ := h
      refine x_cv hP 191 [] [] dX5_told_188 rfl (hG.W_2).o (by decide) rfl ml_RX5_85 im_X4_harm se_X4_harm it_RX4 pp_X4_harm bd_X4_harm rfl rfl ⟨Nat.le_refl _, Nat.le_refl _⟩ (by simp [pC]) hc ?_
      exact x_iret hP dX5_told_191 ⟨Nat.le_refl _, Nat.le_refl _⟩ h
    · have h := hc12 e
      refine ⟨191, 192, by rw [e]; rfl, rfl, ?_⟩
      refine x_aloadn hP 193 0 dX5_told_192 rfl rfl mm0 ?_
      refine x_getr hP 196 2 dX5_told_193 rfl fl_RX5_10 (hG.O_1) (by decide) rfl (hG.R_1_0) ?_
      obtain ⟨v6, hc, h⟩ := h
      refine x_cv hP 199 [] [] dX5_told_196 rfl (hG.W_2).o (by decide) rfl ml_RX5_88 im_X4_firstToSet se_X4_firstToSet it_RX4 pp_X4_firstToSet bd_X4_firstToSet rfl rfl ⟨Nat.le_refl _, Nat.le_refl _⟩ (by simp [pC]) hc ?_
      exact x_iret hP dX5_told_199 ⟨Nat.le_refl _, Nat.le_refl _⟩ h
    · have h := hc13 e
      refine ⟨199, 200, by rw [e]; rfl, rfl, ?_⟩
      refine x_aloadn hP 201 0 dX5_told_200 rfl rfl mm0 ?_
      obtain ⟨s7, hc, h⟩ := h
      refine x_cv hP 204 [] [] dX5_told_201 rfl (hG.O_1) (by decide) rfl ml_RX5_91 im_X5_plan se_X5_plan it_RX5 pp_X5_plan bd_X5_plan rfl rfl ⟨Nat.le_refl _, Nat.le_refl _⟩ (by simp [pC]) hc ?_
      obtain ⟨v8, hc, h⟩ := h
      refine x_cv hP 207 [] [] dX5_told_204 rfl hG.P_14.o (by decide) rfl ml_RX5_95 im_X3_leastHarm se_X3_leastHarm it_RX3 pp_X3_leastHarm bd_X3_leastHarm rfl rfl ⟨Nat.le_refl _, Nat.le_refl _⟩ (by simp [pC]) hc ?_
      exact x_iret hP dX5_told_207 ⟨Nat.le_refl _, Nat.le_refl _⟩ h
    · have h := hc14 e
      refine ⟨207, 208, by rw [e]; rfl, rfl, ?_⟩
      refine x_aloadn hP 209 0 dX5_told_208 rfl rfl mm0 ?_
      obtain ⟨s9, hc, h⟩ := h
      refine x_cv hP 212 [] [] dX5_told_209 rfl (hG.O_1) (by decide) rfl ml_RX5_91 im_X5_plan se_X5_plan it_RX5 pp_X5_plan bd_X5_plan rfl rfl ⟨Nat.le_refl _, Nat.le_refl _⟩ (by simp [pC]) hc ?_
      obtain ⟨v10, hc, h⟩ := h
      refine x_cv hP 215 [] [] dX5_told_212 rfl hG.P_14.o (by decide) rfl ml_RX5_98 im_X3_earliestEnd se_X3_earliestEnd it_RX3 pp_X3_earliestEnd bd_X3_earliestEnd rfl rfl ⟨Nat.le_refl _, Nat.le_refl _⟩ (by simp [pC]) hc ?_
      exact x_iret hP dX5_told_215 ⟨Nat.le_refl _, Nat.le_refl _⟩ h
    · have h := hc15 e
      refine ⟨215, 216, by rw [e]; rfl, rfl, ?_⟩
      refine x_aloadn hP 217 0 dX5_told_216 rfl rfl mm0 ?_
      obtain ⟨v11, s12, hc, h⟩ := h
      refine x_cv hP 220 [] [] dX5_told_217 rfl (hG.O_1) (by decide) rfl ml_RX5_101 im_X5_mayWait se_X5_mayWait it_RX5 pp_X5_mayWait bd_X5_mayWait rfl rfl ⟨Nat.le_refl _, Nat.le_refl _⟩ (by simp [pC]) hc ?_
      exact x_iret hP dX5_told_220 ⟨Nat.le_refl _, Nat.le_refl _⟩ h
    · have h := hc16 e
      refine ⟨220, 221, by rw [e]; rfl, rfl, ?_⟩
      refine x_aloadn hP 222 0 dX5_told_221 rfl rfl mm0 ?_
      refine x_getr hP 225 2 dX5_told_222 rfl fl_RX5_10 (hG.O_1) (by decide) rfl (hG.R_1_0) ?_
      obtain ⟨v13, hc, h⟩ := h
      refine x_cv hP 228 [] [] dX5_told_225 rfl (hG.W_2).o (by decide) rfl ml_RX5_104 im_X4_stoppedHarm se_X4_stoppedHarm it_RX4 pp_X4_stoppedHarm bd_X4_stoppedHarm rfl rfl ⟨Nat.le_refl _, Nat.le_refl _⟩ (by simp [pC]) hc ?_
      exact x_iret hP dX5_told_228 ⟨Nat.le_refl _, Nat.le_refl _⟩ h
    · have h := hc17 e
      refine ⟨228, 229, by rw [e]; rfl, rfl, ?_⟩
      refine x_aloadn hP 230 0 dX5_told_229 rfl rfl mm0 ?_
      refine x_getr hP 233 148 dX5_told_230 rfl fl_RX5_39 (hG.O_1) (by decide) rfl (hG.R_1_5) ?_
      refine x_geti hP 236 dX5_told_233 rfl fl_RX5_107 (hG.O_148) (by decide) rfl ?_
      exact x_iret hP dX5_told_236 ⟨Nat.le_refl _, Nat.le_refl _⟩ h
    · have h := hc18 e
      refine ⟨236, 237, by rw [e]; rfl, rfl, ?_⟩
      refine x_aloadn hP 238 0 dX5_told_237 rfl rfl mm0 ?_
      refine x_getr hP 241 148 dX5_told_238 rfl fl_RX5_39 (hG.O_1) (by decide) rfl (hG.R_1_5) ?_
      refine x_aloadn hP 242 0 dX5_told_241 rfl rfl mm0 ?_
      refine x_getr hP 245 2 dX5_told_242 rfl fl_RX5_10 (hG.O_1) (by decide) rfl (hG.R_1_0) ?_
      obtain ⟨v14, hc, h⟩ := h
      refine x_cv hP 248 [vR (some 2)] [] dX5_told_245 rfl (hG.O_148) (by decide) rfl ml_RX5_110 im_X0_firstWrong se_X0_firstWrong it_RX0 pp_X0_firstWrong bd_X0_firstWrong rfl rfl ⟨Nat.le_refl _, Nat.le_refl _⟩ (by simp [pC]) hc ?_
      exact x_iret hP dX5_told_248 ⟨Nat.le_refl _, Nat.le_refl _⟩ h
    · have h := hc19 e
      refine ⟨248, 249, by rw [e]; rfl, rfl, ?_⟩
      refine x_aloadn hP 250 0 dX5_told_249 rfl rfl mm0 ?_
      refine x_getr hP 253 26 dX5_told_250 rfl fl_RX5_32 (hG.O_1) (by decide) rfl (hG.R_1_4) ?_
      refine x_geti hP 256 dX5_told_253 rfl fl_RX5_114 (hG.O_26) (by decide) rfl ?_
      exact x_iret hP dX5_told_256 ⟨Nat.le_refl _, Nat.le_refl _⟩ h
theorem k_X5_cell_0 {d : Nat} {Q : pQ} {P : pP} {g : pG} {σ : pM} (hP : Clo (pCall d) yX5_cell cX5_cell (some .int) 3 0 0 Q P) (a : Int) (b : Int) (hG : gAll g) (h : ∃ (v1 : Int), Ca d yX4_isCell [vR (some 2), vI a] g σ [vI v1] g σ ∧ iR v1 ∧ (¬ v1 = 0 → iR b ∧ ((b < 0 ∨ 4 < b) → Q [vI ((-1000000002))] g σ) ∧ (b = 0 → (0 ≤ a ∧ a < 9) ∧ Q [vI (σ 3 (Int.toNat a))] g σ) ∧ (b = 1 → (0 ≤ a ∧ a < 9) ∧ Q [vI (σ 4 (Int.toNat a))] g σ) ∧ (b = 2 → (0 ≤ a ∧ a < 9) ∧ Q [vI (σ 5 (Int.toNat a))] g σ) ∧ (b = 3 → ∃ (v2 : Int), Ca d yX4_startOf [vR (some 2), vI a] g σ [vI v2] g σ ∧ Q [vI v2] g σ) ∧ (b = 4 → ∃ (v3 : Int) (s4 : pM), Ca d yX5_harmBehind [vR (some 1), vI a] g σ [vI v3] g s4 ∧ Q [vI v3] g s4)) ∧ (¬ (¬ v1 = 0) → Q [vI ((-1000000001))] g σ)) : P 0 [(0, vR (some 1)), (1, vI a), (2, vI b)] [] g σ 0 0 := by
  refine x_aloadn hP 1 0 dX5_cell_0 rfl rfl mm0 ?_
  refine x_getr hP 4 2 dX5_cell_1 rfl fl_RX5_10 (hG.O_1) (by decide) rfl (hG.R_1_0) ?_
  refine x_iloadn hP 5 1 dX5_cell_4 rfl rfl mm1 ?_
  obtain ⟨v1, hc, h⟩ := h
  refine x_cv hP 8 [vI a] [] dX5_cell_5 rfl (hG.W_2).o (by decide) rfl ml_RX5_118 im_X4_isCell se_X4_isCell it_RX4 pp_X4_isCell bd_X4_isCell rfl rfl ⟨Nat.le_refl _, Nat.le_refl _⟩ (by simp [pC]) hc ?_
  obtain ⟨hs1, h⟩ := h
  refine x_ifc hP 11 14 (¬ v1 = 0) dX5_cell_8 rfl rfl hs1 rfl (fun hbr => ?_) (fun hbr => ?_)
  · replace h := h.1 hbr
    refine x_iloadn hP 15 2 dX5_cell_14 rfl rfl mm2 ?_
    obtain ⟨hs, hd, hc0, hc1, hc2, hc3, hc4⟩ := h
    refine x_tsw hP 93 dX5_cell_15 hs rfl (fun hbr => ?_) (fun hbr => ?_)
    · have h := hd hbr
      refine x_ldc hP 95 dX5_cell_93 rfl kc_RX5_117 ?_
      exact x_iret hP dX5_cell_95 ⟨Nat.le_refl _, Nat.le_refl _⟩ h
    · have hall : b = 0 ∨ b = 1 ∨ b = 2 ∨ b = 3 ∨ b = 4 := by omega
      rcases hall with e | e | e | e | e
      · have h := hc0 e
        refine ⟨33, 48, by rw [e]; rfl, rfl, ?_⟩
        refine x_aloadn hP 49 0 dX5_cell_48 rfl rfl mm0 ?_
        refine x_getr hP 52 2 dX5_cell_49 rfl fl_RX5_10 (hG.O_1) (by decide) rfl (hG.R_1_0) ?_
        refine x_getr hP 55 3 dX5_cell_52 rfl fl_RX5_123 (hG.W_2).o (by decide) rfl (hG.W_2).r1 ?_
        refine x_iloadn hP 56 1 dX5_cell_55 rfl rfl mm1 ?_
        obtain ⟨hs, h⟩ := h
        refine x_iald hP 57 dX5_cell_56 rfl (hG.W_2).a1 (by decide) hs ?_
        exact x_iret hP dX5_cell_57 ⟨Nat.le_refl _, Nat.le_refl _⟩ h
      · have h := hc1 e
        refine ⟨43, 58, by rw [e]; rfl, rfl, ?_⟩
        refine x_aloadn hP 59 0 dX5_cell_58 rfl rfl mm0 ?_
        refine x_getr hP 62 2 dX5_cell_59 rfl fl_RX5_10 (hG.O_1) (by decide) rfl (hG.R_1_0) ?_
        refine x_getr hP 65 4 dX5_cell_62 rfl fl_RX5_127 (hG.W_2).o (by decide) rfl (hG.W_2).r2 ?_
        refine x_iloadn hP 66 1 dX5_cell_65 rfl rfl mm1 ?_
        obtain ⟨hs, h⟩ := h
        refine x_iald hP 67 dX5_cell_66 rfl (hG.W_2).a2 (by decide) hs ?_
        exact x_iret hP dX5_cell_67 ⟨Nat.le_refl _, Nat.le_refl _⟩ h
      · have h := hc2 e
        refine ⟨53, 68, by rw [e]; rfl, rfl, ?_⟩
        refine x_aloadn hP 69 0 dX5_cell_68 rfl rfl mm0 ?_
        refine x_getr hP 72 2 dX5_cell_69 rfl fl_RX5_10 (hG.O_1) (by decide) rfl (hG.R_1_0) ?_
        refine x_getr hP 75 5 dX5_cell_72 rfl fl_RX5_130 (hG.W_2).o (by decide) rfl (hG.W_2).r3 ?_
        refine x_iloadn hP 76 1 dX5_cell_75 rfl rfl mm1 ?_
        obtain ⟨hs, h⟩ := h
        refine x_iald hP 77 dX5_cell_76 rfl (hG.W_2).a3 (by decide) hs ?_
        exact x_iret hP dX5_cell_77 ⟨Nat.le_refl _, Nat.le_refl _⟩ h
      · have h := hc3 e
        refine ⟨63, 78, by rw [e]; rfl, rfl, ?_⟩
        refine x_aloadn hP 79 0 dX5_cell_78 rfl rfl mm0 ?_
        refine x_getr hP 82 2 dX5_cell_79 rfl fl_RX5_10 (hG.O_1) (by decide) rfl (hG.R_1_0) ?_
        refine x_iloadn hP 83 1 dX5_cell_82 rfl rfl mm1 ?_
        obtain ⟨v2, hc, h⟩ := h
        refine x_cv hP 86 [vI a] [] dX5_cell_83 rfl (hG.W_2).o (by decide) rfl ml_RX5_133 im_X4_startOf se_X4_startOf it_RX4 pp_X4_startOf bd_X4_startOf rfl rfl ⟨Nat.le_refl _, Nat.le_refl _⟩ (by simp [pC]) hc ?_
        exact x_iret hP dX5_cell_86 ⟨Nat.le_refl _, Nat.le_refl _⟩ h
      · have h := hc4 e
        refine ⟨72, 87, by rw [e]; rfl, rfl, ?_⟩
        refine x_aloadn hP 88 0 dX5_cell_87 rfl rfl mm0 ?_
        refine x_iloadn hP 89 1 dX5_cell_88 rfl rfl mm1 ?_
        obtain ⟨v3, s4, hc, h⟩ := h
        refine x_cv hP 92 [vI a] [] dX5_cell_89 rfl (hG.O_1) (by decide) rfl ml_RX5_137 im_X5_harmBehind se_X5_harmBehind it_RX5 pp_X5_harmBehind bd_X5_harmBehind rfl rfl ⟨Nat.le_refl _, Nat.le_refl _⟩ (by simp [pC]) hc ?_
        exact x_iret hP dX5_cell_92 ⟨Nat.le_refl _, Nat.le_refl _⟩ h
  · replace h := h.2 hbr
    refine x_ldc hP 13 dX5_cell_11 rfl kc_RX5_122 ?_
    exact x_iret hP dX5_cell_13 ⟨Nat.le_refl _, Nat.le_refl _⟩ h
theorem k_X5_edge_0 {d : Nat} {Q : pQ} {P : pP} {g : pG} {σ : pM} (hP : Clo (pCall d) yX5_edge cX5_edge (some .int) 3 0 0 Q P) (a : Int) (b : Int) (hG : gAll g) (h : ∃ (v1 : Int), Ca d yX4_isEdge [vR (some 2), vI a] g σ [vI v1] g σ ∧ iR v1 ∧ (¬ v1 = 0 → iR b ∧ ((b < 0 ∨ 2 < b) → Q [vI ((-1000000002))] g σ) ∧ (b = 0 → ∃ (v2 : Int), Ca d yX4_isOpen [vR (some 2), vI a] g σ [vI v2] g σ ∧ iR v2 ∧ (v2 = 0 → Q [vI 0] g σ) ∧ (¬ (v2 = 0) → Q [vI 1] g σ)) ∧ (b = 1 → ∃ (v3 : Int), Ca d yX4_isJoint [vR (some 2), vI a] g σ [vI v3] g σ ∧ iR v3 ∧ (v3 = 0 → Q [vI 0] g σ) ∧ (¬ (v3 = 0) → Q [vI 1] g σ)) ∧ (b = 2 → ∃ (v4 : Int), Ca d yX4_timeLeft [vR (some 2), vI a] g σ [vI v4] g σ ∧ Q [vI v4] g σ)) ∧ (¬ (¬ v1 = 0) → Q [vI ((-1000000001))] g σ)) : P 0 [(0, vR (some 1)), (1, vI a), (2, vI b)] [] g σ 0 0 := by
  refine x_aloadn hP 1 0 dX5_edge_0 rfl rfl mm0 ?_
  refine x_getr hP 4 2 dX5_edge_1 rfl fl_RX5_10 (hG.O_1) (by decide) rfl (hG.R_1_0) ?_
  refine x_iloadn hP 5 1 dX5_edge_4 rfl rfl mm1 ?_
  obtain ⟨v1, hc, h⟩ := h
  refine x_cv hP 8 [vI a] [] dX5_edge_5 rfl (hG.W_2).o (by decide) rfl ml_RX5_140 im_X4_isEdge se_X4_isEdge it_RX4 pp_X4_isEdge bd_X4_isEdge rfl rfl ⟨Nat.le_refl _, Nat.le_refl _⟩ (by simp [pC]) hc ?_
  obtain ⟨hs1, h⟩ := h
  refine x_ifc hP 11 14 (¬ v1 = 0) dX5_edge_8 rfl rfl hs1 rfl (fun hbr => ?_) (fun hbr => ?_)
  · replace h := h.1 hbr
    refine x_iloadn hP 15 2 dX5_edge_14 rfl rfl mm2 ?_
    obtain ⟨hs, hd, hc0, hc1, hc2⟩ := h
    refine x_tsw hP 83 dX5_edge_15 hs rfl (fun hbr => ?_) (fun hbr => ?_)
    · have h := hd hbr
      refine x_ldc hP 85 dX5_edge_83 rfl kc_RX5_117 ?_
      exact x_iret hP dX5_edge_85 ⟨Nat.le_refl _, Nat.le_refl _⟩ h
    · have hall : b = 0 ∨ b = 1 ∨ b = 2 := by omega
      rcases hall with e | e | e
      · have h := hc0 e
        refine ⟨25, 40, by rw [e]; rfl, rfl, ?_⟩
        refine x_aloadn hP 41 0 dX5_edge_40 rfl rfl mm0 ?_
        refine x_getr hP 44 2 dX5_edge_41 rfl fl_RX5_10 (hG.O_1) (by decide) rfl (hG.R_1_0) ?_
        refine x_iloadn hP 45 1 dX5_edge_44 rfl rfl mm1 ?_
        obtain ⟨v2, hc, h⟩ := h
        refine x_cv hP 48 [vI a] [] dX5_edge_45 rfl (hG.W_2).o (by decide) rfl ml_RX5_143 im_X4_isOpen se_X4_isOpen it_RX4 pp_X4_isOpen bd_X4_isOpen rfl rfl ⟨Nat.le_refl _, Nat.le_refl _⟩ (by simp [pC]) hc ?_
        obtain ⟨hs1, h⟩ := h
        refine x_ifc hP 51 55 (v2 = 0) dX5_edge_48 rfl rfl hs1 rfl (fun hbr => ?_) (fun hbr => ?_)
        · replace h := h.1 hbr
          refine x_iconst hP 56 dX5_edge_55 rfl ?_
          exact x_iret hP dX5_edge_56 ⟨Nat.le_refl _, Nat.le_refl _⟩ h
        · replace h := h.2 hbr
          refine x_iconst hP 52 dX5_edge_51 rfl ?_
          refine x_goto hP 56 dX5_edge_52 rfl ?_
          exact x_iret hP dX5_edge_56 ⟨Nat.le_refl _, Nat.le_refl _⟩ h
      · have h := hc1 e
        refine ⟨42, 57, by rw [e]; rfl, rfl, ?_⟩
        refine x_aloadn hP 58 0 dX5_edge_57 rfl rfl mm0 ?_
        refine x_getr hP 61 2 dX5_edge_58 rfl fl_RX5_10 (hG.O_1) (by decide) rfl (hG.R_1_0) ?_
        refine x_iloadn hP 62 1 dX5_edge_61 rfl rfl mm1 ?_
        obtain ⟨v3, hc, h⟩ := h
        refine x_cv hP 65 [vI a] [] dX5_edge_62 rfl (hG.W_2).o (by decide) rfl ml_RX5_146 im_X4_isJoint se_X4_isJoint it_RX4 pp_X4_isJoint bd_X4_isJoint rfl rfl ⟨Nat.le_refl _, Nat.le_refl _⟩ (by simp [pC]) hc ?_
        obtain ⟨hs1, h⟩ := h
        refine x_ifc hP 68 72 (v3 = 0) dX5_edge_65 rfl rfl hs1 rfl (fun hbr => ?_) (fun hbr => ?_)
        · replace h := h.1 hbr
          refine x_iconst hP 73 dX5_edge_72 rfl ?_
          exact x_iret hP dX5_edge_73 ⟨Nat.le_refl _, Nat.le_refl _⟩ h
        · replace h := h.2 hbr
          refine x_iconst hP 69 dX5_edge_68 rfl ?_
          refine x_goto hP 73 dX5_edge_69 rfl ?_
          exact x_iret hP dX5_edge_73 ⟨Nat.le_refl _, Nat.le_refl _⟩ h
      · have h := hc2 e
        refine ⟨59, 74, by rw [e]; rfl, rfl, ?_⟩
        refine x_aloadn hP 75 0 dX5_edge_74 rfl rfl mm0 ?_
        refine x_getr hP 78 2 dX5_edge_75 rfl fl_RX5_10 (hG.O_1) (by decide) rfl (hG.R_1_0) ?_
        refine x_iloadn hP 79 1 dX5_edge_78 rfl rfl mm1 ?_
        obtain ⟨v4, hc, h⟩ := h
        refine x_cv hP 82 [vI a] [] dX5_edge_79 rfl (hG.W_2).o (by decide) rfl ml_RX5_149 im_X4_timeLeft se_X4_timeLeft it_RX4 pp_X4_timeLeft bd_X4_timeLeft rfl rfl ⟨Nat.le_refl _, Nat.le_refl _⟩ (by simp [pC]) hc ?_
        exact x_iret hP dX5_edge_82 ⟨Nat.le_refl _, Nat.le_refl _⟩ h
  · replace h := h.2 hbr
    refine x_ldc hP 13 dX5_edge_11 rfl kc_RX5_122 ?_
    exact x_iret hP dX5_edge_13 ⟨Nat.le_refl _, Nat.le_refl _⟩ h
theorem k_X5_truckAt_0 {d : Nat} {Q : pQ} {P : pP} {g : pG} {σ : pM} (hP : Clo (pCall d) yX5_truckAt cX5_truckAt (some .int) 3 0 0 Q P) (a : Int) (b : Int) (hG : gAll g) (h : ∃ (v1 : Int), Ca d yX4_isTruck [vR (some 2), vI a] g σ [vI v1] g σ ∧ iR v1 ∧ (¬ v1 = 0 → iR b ∧ ((b < 0 ∨ 2 < b) → Q [vI ((-1000000002))] g σ) ∧ (b = 0 → (0 ≤ a ∧ a < 9) ∧ Q [vI (σ 6 (Int.toNat a))] g σ) ∧ (b = 1 → (0 ≤ a ∧ a < 9) ∧ Q [vI (σ 7 (Int.toNat a))] g σ) ∧ (b = 2 → ∃ (v2 : Int) (s3 : pM), Ca d yX5_mayBeLate [vR (some 1), vI a] g σ [vI v2] g s3 ∧ Q [vI v2] g s3)) ∧ (¬ (¬ v1 = 0) → Q [vI ((-1000000001))] g σ)) : P 0 [(0, vR (some 1)), (1, vI a), (2, vI b)] [] g σ 0 0 := by
  refine x_aloadn hP 1 0 dX5_truckAt_0 rfl rfl mm0 ?_
  refine x_getr hP 4 2 dX5_truckAt_1 rfl fl_RX5_10 (hG.O_1) (by decide) rfl (hG.R_1_0) ?_
  refine x_iloadn hP 5 1 dX5_truckAt_4 rfl rfl mm1 ?_
  obtain ⟨v1, hc, h⟩ := h
  refine x_cv hP 8 [vI a] [] dX5_truckAt_5 rfl (hG.W_2).o (by decide) rfl ml_RX5_152 im_X4_isTruck se_X4_isTruck it_RX4 pp_X4_isTruck bd_X4_isTruck rfl rfl ⟨Nat.le_refl _, Nat.le_refl _⟩ (by simp [pC]) hc ?_
  obtain ⟨hs1, h⟩ := h
  refine x_ifc hP 11 14 (¬ v1 = 0) dX5_truckAt_8 rfl rfl hs1 rfl (fun hbr => ?_) (fun hbr => ?_)
  · replace h := h.1 hbr
    refine x_iloadn hP 15 2 dX5_truckAt_14 rfl rfl mm2 ?_
    obtain ⟨hs, hd, hc0, hc1, hc2⟩ := h
    refine x_tsw hP 66 dX5_truckAt_15 hs rfl (fun hbr => ?_) (fun hbr => ?_)
    · have h := hd hbr
      refine x_ldc hP 68 dX5_truckAt_66 rfl kc_RX5_117 ?_
      exact x_iret hP dX5_truckAt_68 ⟨Nat.le_refl _, Nat.le_refl _⟩ h
    · have hall : b = 0 ∨ b = 1 ∨ b = 2 := by omega
      rcases hall with e | e | e
      · have h := hc0 e
        refine ⟨25, 40, by rw [e]; rfl, rfl, ?_⟩
        refine x_aloadn hP 41 0 dX5_truckAt_40 rfl rfl mm0 ?_
        refine x_getr hP 44 2 dX5_truckAt_41 rfl fl_RX5_10 (hG.O_1) (by decide) rfl (hG.R_1_0) ?_
        refine x_getr hP 47 6 dX5_truckAt_44 rfl fl_RX5_155 (hG.W_2).o (by decide) rfl (hG.W_2).r4 ?_
        refine x_iloadn hP 48 1 dX5_truckAt_47 rfl rfl mm1 ?_
        obtain ⟨hs, h⟩ := h
        refine x_iald hP 49 dX5_truckAt_48 rfl (hG.W_2).a4 (by decide) hs ?_
        exact x_iret hP dX5_truckAt_49 ⟨Nat.le_refl _, Nat.le_refl _⟩ h
      · have h := hc1 e
        refine ⟨35, 50, by rw [e]; rfl, rfl, ?_⟩
        refine x_aloadn hP 51 0 dX5_truckAt_50 rfl rfl mm0 ?_
        refine x_getr hP 54 2 dX5_truckAt_51 rfl fl_RX5_10 (hG.O_1) (by decide) rfl (hG.R_1_0) ?_
        refine x_getr hP 57 7 dX5_truckAt_54 rfl fl_RX5_158 (hG.W_2).o (by decide) rfl (hG.W_2).r5 ?_
        refine x_iloadn hP 58 1 dX5_truckAt_57 rfl rfl mm1 ?_
        obtain ⟨hs, h⟩ := h
        refine x_iald hP 59 dX5_truckAt_58 rfl (hG.W_2).a5 (by decide) hs ?_
        exact x_iret hP dX5_truckAt_59 ⟨Nat.le_refl _, Nat.le_refl _⟩ h
      · have h := hc2 e
        refine ⟨45, 60, by rw [e]; rfl, rfl, ?_⟩
        refine x_aloadn hP 61 0 dX5_truckAt_60 rfl rfl mm0 ?_
        refine x_iloadn hP 62 1 dX5_truckAt_61 rfl rfl mm1 ?_
        obtain ⟨v2, s3, hc, h⟩ := h
        refine x_cv hP 65 [vI a] [] dX5_truckAt_62 rfl (hG.O_1) (by decide) rfl ml_RX5_161 im_X5_mayBeLate se_X5_mayBeLate it_RX5 pp_X5_mayBeLate bd_X5_mayBeLate rfl rfl ⟨Nat.le_refl _, Nat.le_refl _⟩ (by simp [pC]) hc ?_
        exact x_iret hP dX5_truckAt_65 ⟨Nat.le_refl _, Nat.le_refl _⟩ h
  · replace h := h.2 hbr
    refine x_ldc hP 13 dX5_truckAt_11 rfl kc_RX5_122 ?_
    exact x_iret hP dX5_truckAt_13 ⟨Nat.le_refl _, Nat.le_refl _⟩ h
theorem k_X5_build_0 {d : Nat} {Q : pQ} {P : pP} {g : pG} {σ : pM} (hP : Clo (pCall d) yX5_build cX5_build (some .int) 4 0 0 Q P) (a : Int) (b : Int) (hG : gAll g) (h : ∃ (v1 : Int), Ca d yX5_within [vI a, vI 1, vI 3] g σ [vI v1] g σ ∧ iR v1 ∧ (v1 = 0 → Q [vI ((-1000000002))] g σ) ∧ (¬ (v1 = 0) → ∃ (v2 : Int), Ca d yX5_within [vI b, vI 1, vI 3] g σ [vI v2] g σ ∧ iR v2 ∧ (¬ v2 = 0 → ∃ (v3 : Int), Ca d yX4_pouredCount [vR (some 2)] g σ [vI v3] g σ ∧ ∃ (s4 : pM), Ca d yX5_beforeDeed [vR (some 1)] g σ [] g s4 ∧ ∃ (s5 : pM), Ca d yX4_raise [vR (some 2), vI a, vI b] g s4 [] g s5 ∧ Q [vI v3] g s5) ∧ (¬ (¬ v2 = 0) → Q [vI ((-1000000002))] g σ))) : P 0 [(0, vR (some 1)), (1, vI a), (2, vI b)] [] g σ 0 0 := by
  refine x_iloadn hP 1 1 dX5_build_0 rfl rfl mm1 ?_
  refine x_iconst hP 2 dX5_build_1 rfl ?_
  refine x_iconst hP 3 dX5_build_2 rfl ?_
  obtain ⟨v1, hc, h⟩ := h
  refine x_cs hP 6 [vI a, vI 1, vI 3] [] dX5_build_3 rfl ml_RX5_164 sm_X5_within it_RX5 pp_X5_within bd_X5_within rfl rfl ⟨Nat.le_refl _, Nat.le_refl _⟩ (by simp [pC]) hc ?_
  obtain ⟨hs1, h⟩ := h
  refine x_ifc hP 9 18 (v1 = 0) dX5_build_6 rfl rfl hs1 rfl (fun hbr => ?_) (fun hbr => ?_)
  · replace h := h.1 hbr
    refine x_ldc hP 20 dX5_build_18 rfl kc_RX5_117 ?_
    exact x_iret hP dX5_build_20 ⟨Nat.le_refl _, Nat.le_refl _⟩ h
  · replace h := h.2 hbr
    refine x_iloadn hP 10 2 dX5_build_9 rfl rfl mm2 ?_
    refine x_iconst hP 11 dX5_build_10 rfl ?_
    refine x_iconst hP 12 dX5_build_11 rfl ?_
    obtain ⟨v2, hc, h⟩ := h
    refine x_cs hP 15 [vI b, vI 1, vI 3] [] dX5_build_12 rfl ml_RX5_164 sm_X5_within it_RX5 pp_X5_within bd_X5_within rfl rfl ⟨Nat.le_refl _, Nat.le_refl _⟩ (by simp [pC]) hc ?_
    obtain ⟨hs1, h⟩ := h
    refine x_ifc hP 18 21 (¬ v2 = 0) dX5_build_15 rfl rfl hs1 rfl (fun hbr => ?_) (fun hbr => ?_)
    · replace h := h.1 hbr
      refine x_aloadn hP 22 0 dX5_build_21 rfl rfl mm0 ?_
      refine x_getr hP 25 2 dX5_build_22 rfl fl_RX5_10 (hG.O_1) (by decide) rfl (hG.R_1_0) ?_
      obtain ⟨v3, hc, h⟩ := h
      refine x_cv hP 28 [] [] dX5_build_25 rfl (hG.W_2).o (by decide) rfl ml_RX5_168 im_X4_pouredCount se_X4_pouredCount it_RX4 pp_X4_pouredCount bd_X4_pouredCount rfl rfl ⟨Nat.le_refl _, Nat.le_refl _⟩ (by simp [pC]) hc ?_
      refine x_istoren hP 29 3 [(0, vR (some 1)), (1, vI a), (2, vI b), (3, vI v3)] dX5_build_28 rfl rfl (by decide) rfl rfl ?_
      refine x_aloadn hP 30 0 dX5_build_29 rfl rfl mm0 ?_
      obtain ⟨s4, hc, h⟩ := h
      refine x_cv hP 33 [] [] dX5_build_30 rfl (hG.O_1) (by decide) rfl ml_RX5_171 im_X5_beforeDeed se_X5_beforeDeed it_RX5 pp_X5_beforeDeed bd_X5_beforeDeed rfl rfl ⟨Nat.le_refl _, Nat.le_refl _⟩ (by simp [pC]) hc ?_
      refine x_aloadn hP 34 0 dX5_build_33 rfl rfl mm0 ?_
      refine x_getr hP 37 2 dX5_build_34 rfl fl_RX5_10 (hG.O_1) (by decide) rfl (hG.R_1_0) ?_
      refine x_iloadn hP 38 1 dX5_build_37 rfl rfl mm1 ?_
      refine x_iloadn hP 39 2 dX5_build_38 rfl rfl mm2 ?_
      obtain ⟨s5, hc, h⟩ := h
      refine x_cv hP 42 [vI a, vI b] [] dX5_build_39 rfl (hG.W_2).o (by decide) rfl ml_RX5_174 im_X4_raise se_X4_raise it_RX4 pp_X4_raise bd_X4_raise rfl rfl ⟨Nat.le_refl _, Nat.le_refl _⟩ (by simp [pC]) hc ?_
      refine x_iloadn hP 43 3 dX5_build_42 rfl rfl mm3 ?_
      exact x_iret hP dX5_build_43 ⟨Nat.le_refl _, Nat.le_refl _⟩ h
    · replace h := h.2 hbr
      refine x_ldc hP 20 dX5_build_18 rfl kc_RX5_117 ?_
      exact x_iret hP dX5_build_20 ⟨Nat.le_refl _, Nat.le_refl _⟩ h
theorem k_X5_truck_0 {d : Nat} {Q : pQ} {P : pP} {g : pG} {σ : pM} (hP : Clo (pCall d) yX5_truck cX5_truck (some .int) 3 0 0 Q P) (a : Int) (b : Int) (hG : gAll g) (h : ∃ (v1 : Int), Ca d yX5_within [vI a, vI 0, vI 99] g σ [vI v1] g σ ∧ iR v1 ∧ (v1 = 0 → Q [vI ((-1000000002))] g σ) ∧ (¬ (v1 = 0) → ∃ (v2 : Int), Ca d yX5_within [vI b, vI 1, vI 4] g σ [vI v2] g σ ∧ iR v2 ∧ (¬ v2 = 0 → ∃ (v3 : Int), Ca d yX4_hasTruckRoom [vR (some 2)] g σ [vI v3] g σ ∧ iR v3 ∧ (¬ v3 = 0 → ∃ (s4 : pM), Ca d yX5_beforeDeed [vR (some 1)] g σ [] g s4 ∧ ∃ (s5 : pM), Ca d yX4_addTruck [vR (some 2), vI a, vI b] g s4 [] g s5 ∧ Q [vI ((s5 2 7) - 1)] g s5) ∧ (¬ (¬ v3 = 0) → Q [vI ((-1000000004))] g σ)) ∧ (¬ (¬ v2 = 0) → Q [vI ((-1000000002))] g σ))) : P 0 [(0, vR (some 1)), (1, vI a), (2, vI b)] [] g σ 0 0 := by
  refine x_iloadn hP 1 1 dX5_truck_0 rfl rfl mm1 ?_
  refine x_iconst hP 2 dX5_truck_1 rfl ?_
  refine x_bipush hP 4 dX5_truck_2 rfl (by decide) ?_
  obtain ⟨v1, hc, h⟩ := h
  refine x_cs hP 7 [vI a, vI 0, vI 99] [] dX5_truck_4 rfl ml_RX5_164 sm_X5_within it_RX5 pp_X5_within bd_X5_within rfl rfl ⟨Nat.le_refl _, Nat.le_refl _⟩ (by simp [pC]) hc ?_
  obtain ⟨hs1, h⟩ := h
  refine x_ifc hP 10 19 (v1 = 0) dX5_truck_7 rfl rfl hs1 rfl (fun hbr => ?_) (fun hbr => ?_)
  · replace h := h.1 hbr
    refine x_ldc hP 21 dX5_truck_19 rfl kc_RX5_117 ?_
    exact x_iret hP dX5_truck_21 ⟨Nat.le_refl _, Nat.le_refl _⟩ h
  · replace h := h.2 hbr
    refine x_iloadn hP 11 2 dX5_truck_10 rfl rfl mm2 ?_
    refine x_iconst hP 12 dX5_truck_11 rfl ?_
    refine x_iconst hP 13 dX5_truck_12 rfl ?_
    obtain ⟨v2, hc, h⟩ := h
    refine x_cs hP 16 [vI b, vI 1, vI 4] [] dX5_truck_13 rfl ml_RX5_164 sm_X5_within it_RX5 pp_X5_within bd_X5_within rfl rfl ⟨Nat.le_refl _, Nat.le_refl _⟩ (by simp [pC]) hc ?_
    obtain ⟨hs1, h⟩ := h
    refine x_ifc hP 19 22 (¬ v2 = 0) dX5_truck_16 rfl rfl hs1 rfl (fun hbr => ?_) (fun hbr => ?_)
    · replace h := h.1 hbr
      refine x_aloadn hP 23 0 dX5_truck_22 rfl rfl mm0 ?_
      refine x_getr hP 26 2 dX5_truck_23 rfl fl_RX5_10 (hG.O_1) (by decide) rfl (hG.R_1_0) ?_
      obtain ⟨v3, hc, h⟩ := h
      refine x_cv hP 29 [] [] dX5_truck_26 rfl (hG.W_2).o (by decide) rfl ml_RX5_178 im_X4_hasTruckRoom se_X4_hasTruckRoom it_RX4 pp_X4_hasTruckRoom bd_X4_hasTruckRoom rfl rfl ⟨Nat.le_refl _, Nat.le_refl _⟩ (by simp [pC]) hc ?_
      obtain ⟨hs1, h⟩ := h
      refine x_ifc hP 32 35 (¬ v3 = 0) dX5_truck_29 rfl rfl hs1 rfl (fun hbr => ?_) (fun hbr => ?_)
      · replace h := h.1 hbr
        refine x_aloadn hP 36 0 dX5_truck_35 rfl rfl mm0 ?_
        obtain ⟨s4, hc, h⟩ := h
        refine x_cv hP 39 [] [] dX5_truck_36 rfl (hG.O_1) (by decide) rfl ml_RX5_171 im_X5_beforeDeed se_X5_beforeDeed it_RX5 pp_X5_beforeDeed bd_X5_beforeDeed rfl rfl ⟨Nat.le_refl _, Nat.le_refl _⟩ (by simp [pC]) hc ?_
        refine x_aloadn hP 40 0 dX5_truck_39 rfl rfl mm0 ?_
        refine x_getr hP 43 2 dX5_truck_40 rfl fl_RX5_10 (hG.O_1) (by decide) rfl (hG.R_1_0) ?_
        refine x_iloadn hP 44 1 dX5_truck_43 rfl rfl mm1 ?_
        refine x_iloadn hP 45 2 dX5_truck_44 rfl rfl mm2 ?_
        obtain ⟨s5, hc, h⟩ := h
        refine x_cv hP 48 [vI a, vI b] [] dX5_truck_45 rfl (hG.W_2).o (by decide) rfl ml_RX5_183 im_X4_addTruck se_X4_addTruck it_RX4 pp_X4_addTruck bd_X4_addTruck rfl rfl ⟨Nat.le_refl _, Nat.le_refl _⟩ (by simp [pC]) hc ?_
        refine x_aloadn hP 49 0 dX5_truck_48 rfl rfl mm0 ?_
        refine x_getr hP 52 2 dX5_truck_49 rfl fl_RX5_10 (hG.O_1) (by decide) rfl (hG.R_1_0) ?_
        refine x_geti hP 55 dX5_truck_52 rfl fl_RX5_60 (hG.W_2).o (by decide) rfl ?_
        refine x_iconst hP 56 dX5_truck_55 rfl ?_
        refine x_isub hP 57 dX5_truck_56 rfl ?_
        exact x_iret hP dX5_truck_57 ⟨Nat.le_refl _, Nat.le_refl _⟩ h
      · replace h := h.2 hbr
        refine x_ldc hP 34 dX5_truck_32 rfl kc_RX5_182 ?_
        exact x_iret hP dX5_truck_34 ⟨Nat.le_refl _, Nat.le_refl _⟩ h
    · replace h := h.2 hbr
      refine x_ldc hP 21 dX5_truck_19 rfl kc_RX5_117 ?_
      exact x_iret hP dX5_truck_21 ⟨Nat.le_refl _, Nat.le_refl _⟩ h
theorem k_X5_late_0 {d : Nat} {Q : pQ} {P : pP} {g : pG} {σ : pM} (hP : Clo (pCall d) yX5_late cX5_late (some .int) 4 0 0 Q P) (a : Int) (b : Int) (hG : gAll g) (h : ∃ (v1 : Int), Ca d yX4_isTruck [vR (some 2), vI a] g σ [vI v1] g σ ∧ iR v1 ∧ (¬ v1 = 0 → ∃ (v2 : Int), Ca d yX5_within [vI b, vI ((-99)), vI 99] g σ [vI v2] g σ ∧ iR v2 ∧ (¬ v2 = 0 → (0 ≤ a ∧ a < 9) ∧ ∃ (v3 : Int), Ca d yX5_within [vI ((σ 6 (Int.toNat a)) + b), vI 0, vI 99] g σ [vI v3] g σ ∧ iR v3 ∧ (¬ v3 = 0 → ∃ (v4 : Int) (s5 : pM), Ca d yX5_stockIfLate [vR (some 1), vI a, vI b] g σ [vI v4] g s5 ∧ iR v4 ∧ (0 ≤ v4 → ∃ (s6 : pM), Ca d yX5_beforeDeed [vR (some 1)] g s5 [] g s6 ∧ (0 ≤ a ∧ a < 9) ∧ Q [vI ((σ 6 (Int.toNat a)) + b)] g (up2 s6 6 (Int.toNat a) ((σ 6 (Int.toNat a)) + b))) ∧ (¬ (0 ≤ v4) → Q [vI ((-1000000003))] g s5)) ∧ (¬ (¬ v3 = 0) → Q [vI ((-1000000002))] g σ)) ∧ (¬ (¬ v2 = 0) → Q [vI ((-1000000002))] g σ)) ∧ (¬ (¬ v1 = 0) → Q [vI ((-1000000001))] g σ)) : P 0 [(0, vR (some 1)), (1, vI a), (2, vI b)] [] g σ 0 0 := by
  refine x_aloadn hP 1 0 dX5_late_0 rfl rfl mm0 ?_
  refine x_getr hP 4 2 dX5_late_1 rfl fl_RX5_10 (hG.O_1) (by decide) rfl (hG.R_1_0) ?_
  refine x_iloadn hP 5 1 dX5_late_4 rfl rfl mm1 ?_
  obtain ⟨v1, hc, h⟩ := h
  refine x_cv hP 8 [vI a] [] dX5_late_5 rfl (hG.W_2).o (by decide) rfl ml_RX5_152 im_X4_isTruck se_X4_isTruck it_RX4 pp_X4_isTruck bd_X4_isTruck rfl rfl ⟨Nat.le_refl _, Nat.le_refl _⟩ (by simp [pC]) hc ?_
  obtain ⟨hs1, h⟩ := h
  refine x_ifc hP 11 14 (¬ v1 = 0) dX5_late_8 rfl rfl hs1 rfl (fun hbr => ?_) (fun hbr => ?_)
  · replace h := h.1 hbr
    refine x_iloadn hP 15 2 dX5_late_14 rfl rfl mm2 ?_
    refine x_bipush hP 17 dX5_late_15 rfl (by decide) ?_
    refine x_bipush hP 19 dX5_late_17 rfl (by decide) ?_
    obtain ⟨v2, hc, h⟩ := h
    refine x_cs hP 22 [vI b, vI ((-99)), vI 99] [] dX5_late_19 rfl ml_RX5_164 sm_X5_within it_RX5 pp_X5_within bd_X5_within rfl rfl ⟨Nat.le_refl _, Nat.le_refl _⟩ (by simp [pC]) hc ?_
    obtain ⟨hs1, h⟩ := h
    refine x_ifc hP 25 28 (¬ v2 = 0) dX5_late_22 rfl rfl hs1 rfl (fun hbr => ?_) (fun hbr => ?_)
    · replace h := h.1 hbr
      refine x_aloadn hP 29 0 dX5_late_28 rfl rfl mm0 ?_
      refine x_getr hP 32 2 dX5_late_29 rfl fl_RX5_10 (hG.O_1) (by decide) rfl (hG.R_1_0) ?_
      refine x_getr hP 35 6 dX5_late_32 rfl fl_RX5_155 (hG.W_2).o (by decide) rfl (hG.W_2).r4 ?_
      refine x_iloadn hP 36 1 dX5_late_35 rfl rfl mm1 ?_
      obtain ⟨hs, h⟩ := h
      refine x_iald hP 37 dX5_late_36 rfl (hG.W_2).a4 (by decide) hs ?_
      refine x_iloadn hP 38 2 dX5_late_37 rfl rfl mm2 ?_
      refine x_iadd hP 39 dX5_late_38 rfl ?_
      refine x_istoren hP 40 3 [(0, vR (some 1)), (1, vI a), (2, vI b), (3, vI ((σ 6 (Int.toNat a)) + b))] dX5_late_39 rfl rfl (by decide) rfl rfl ?_
      refine x_iloadn hP 41 3 dX5_late_40 rfl rfl mm3 ?_
      refine x_iconst hP 42 dX5_late_41 rfl ?_
      refine x_bipush hP 44 dX5_late_42 rfl (by decide) ?_
      obtain ⟨v3, hc, h⟩ := h
      refine x_cs hP 47 [vI ((σ 6 (Int.toNat a)) + b), vI 0, vI 99] [] dX5_late_44 rfl ml_RX5_164 sm_X5_within it_RX5 pp_X5_within bd_X5_within rfl rfl ⟨Nat.le_refl _, Nat.le_refl _⟩ (by simp [pC]) hc ?_
      obtain ⟨hs1, h⟩ := h
      refine x_ifc hP 50 53 (¬ v3 = 0) dX5_late_47 rfl rfl hs1 rfl (fun hbr => ?_) (fun hbr => ?_)
      · replace h := h.1 hbr
        refine x_aloadn hP 54 0 dX5_late_53 rfl rfl mm0 ?_
        refine x_iloadn hP 55 1 dX5_late_54 rfl rfl mm1 ?_
        refine x_iloadn hP 56 2 dX5_late_55 rfl rfl mm2 ?_
        obtain ⟨v4, s5, hc, h⟩ := h
        refine x_cv hP 59 [vI a, vI b] [] dX5_late_56 rfl (hG.O_1) (by decide) rfl ml_RX5_186 im_X5_stockIfLate se_X5_stockIfLate it_RX5 pp_X5_stockIfLate bd_X5_stockIfLate rfl rfl ⟨Nat.le_refl _, Nat.le_refl _⟩ (by simp [pC]) hc ?_
        obtain ⟨hs1, h⟩ := h
        refine x_ifc hP 62 65 (0 ≤ v4) dX5_late_59 rfl rfl hs1 rfl (fun hbr => ?_) (fun hbr => ?_)
        · replace h := h.1 hbr
          refine x_aloadn hP 66 0 dX5_late_65 rfl rfl mm0 ?_
          obtain ⟨s6, hc, h⟩ := h
          refine x_cv hP 69 [] [] dX5_late_66 rfl (hG.O_1) (by decide) rfl ml_RX5_171 im_X5_beforeDeed se_X5_beforeDeed it_RX5 pp_X5_beforeDeed bd_X5_beforeDeed rfl rfl ⟨Nat.le_refl _, Nat.le_refl _⟩ (by simp [pC]) hc ?_
          refine x_aloadn hP 70 0 dX5_late_69 rfl rfl mm0 ?_
          refine x_getr hP 73 2 dX5_late_70 rfl fl_RX5_10 (hG.O_1) (by decide) rfl (hG.R_1_0) ?_
          refine x_getr hP 76 6 dX5_late_73 rfl fl_RX5_155 (hG.W_2).o (by decide) rfl (hG.W_2).r4 ?_
          refine x_iloadn hP 77 1 dX5_late_76 rfl rfl mm1 ?_
          refine x_iloadn hP 78 3 dX5_late_77 rfl rfl mm3 ?_
          obtain ⟨hs1, h⟩ := h
          refine x_iast hP 79 dX5_late_78 rfl (hG.W_2).a4 (by decide) hs1 ?_
          refine x_iloadn hP 80 3 dX5_late_79 rfl rfl mm3 ?_
          exact x_iret hP dX5_late_80 ⟨Nat.le_refl _, Nat.le_refl _⟩ h
        · replace h := h.2 hbr
          refine x_ldc hP 64 dX5_late_62 rfl kc_RX5_190 ?_
          exact x_iret hP dX5_late_64 ⟨Nat.le_refl _, Nat.le_refl _⟩ h
      · replace h := h.2 hbr
        refine x_ldc hP 52 dX5_late_50 rfl kc_RX5_117 ?_
        exact x_iret hP dX5_late_52 ⟨Nat.le_refl _, Nat.le_refl _⟩ h
    · replace h := h.2 hbr
      refine x_ldc hP 27 dX5_late_25 rfl kc_RX5_117 ?_
      exact x_iret hP dX5_late_27 ⟨Nat.le_refl _, Nat.le_refl _⟩ h
  · replace h := h.2 hbr
    refine x_ldc hP 13 dX5_late_11 rfl kc_RX5_122 ?_
    exact x_iret hP dX5_late_13 ⟨Nat.le_refl _, Nat.le_refl _⟩ h
theorem k_X5_away_0 {d : Nat} {Q : pQ} {P : pP} {g : pG} {σ : pM} (hP : Clo (pCall d) yX5_away cX5_away (some .int) 2 0 0 Q P) (a : Int) (hG : gAll g) (h : ∃ (v1 : Int), Ca d yX4_isTruck [vR (some 2), vI a] g σ [vI v1] g σ ∧ iR v1 ∧ (¬ v1 = 0 → ∃ (v2 : Int) (s3 : pM), Ca d yX5_stockWithout [vR (some 1), vI a] g σ [vI v2] g s3 ∧ iR v2 ∧ (0 ≤ v2 → ∃ (s4 : pM), Ca d yX5_beforeDeed [vR (some 1)] g s3 [] g s4 ∧ ∃ (s5 : pM), Ca d yX4_dropTruck [vR (some 2), vI a] g s4 [] g s5 ∧ Q [vI (s5 2 7)] g s5) ∧ (¬ (0 ≤ v2) → Q [vI ((-1000000003))] g s3)) ∧ (¬ (¬ v1 = 0) → Q [vI ((-1000000001))] g σ)) : P 0 [(0, vR (some 1)), (1, vI a)] [] g σ 0 0 := by
  refine x_aloadn hP 1 0 dX5_away_0 rfl rfl mm0 ?_
  refine x_getr hP 4 2 dX5_away_1 rfl fl_RX5_10 (hG.O_1) (by decide) rfl (hG.R_1_0) ?_
  refine x_iloadn hP 5 1 dX5_away_4 rfl rfl mm1 ?_
  obtain ⟨v1, hc, h⟩ := h
  refine x_cv hP 8 [vI a] [] dX5_away_5 rfl (hG.W_2).o (by decide) rfl ml_RX5_152 im_X4_isTruck se_X4_isTruck it_RX4 pp_X4_isTruck bd_X4_isTruck rfl rfl ⟨Nat.le_refl _, Nat.le_refl _⟩ (by simp [pC]) hc ?_
  obtain ⟨hs1, h⟩ := h
  refine x_ifc hP 11 14 (¬ v1 = 0) dX5_away_8 rfl rfl hs1 rfl (fun hbr => ?_) (fun hbr => ?_)
  · replace h := h.1 hbr
    refine x_aloadn hP 15 0 dX5_away_14 rfl rfl mm0 ?_
    refine x_iloadn hP 16 1 dX5_away_15 rfl rfl mm1 ?_
    obtain ⟨v2, s3, hc, h⟩ := h
    refine x_cv hP 19 [vI a] [] dX5_away_16 rfl (hG.O_1) (by decide) rfl ml_RX5_191 im_X5_stockWithout se_X5_stockWithout it_RX5 pp_X5_stockWithout bd_X5_stockWithout rfl rfl ⟨Nat.le_refl _, Nat.le_refl _⟩ (by simp [pC]) hc ?_
    obtain ⟨hs1, h⟩ := h
    refine x_ifc hP 22 25 (0 ≤ v2) dX5_away_19 rfl rfl hs1 rfl (fun hbr => ?_) (fun hbr => ?_)
    · replace h := h.1 hbr
      refine x_aloadn hP 26 0 dX5_away_25 rfl rfl mm0 ?_
      obtain ⟨s4, hc, h⟩ := h
      refine x_cv hP 29 [] [] dX5_away_26 rfl (hG.O_1) (by decide) rfl ml_RX5_171 im_X5_beforeDeed se_X5_beforeDeed it_RX5 pp_X5_beforeDeed bd_X5_beforeDeed rfl rfl ⟨Nat.le_refl _, Nat.le_refl _⟩ (by simp [pC]) hc ?_
      refine x_aloadn hP 30 0 dX5_away_29 rfl rfl mm0 ?_
      refine x_getr hP 33 2 dX5_away_30 rfl fl_RX5_10 (hG.O_1) (by decide) rfl (hG.R_1_0) ?_
      refine x_iloadn hP 34 1 dX5_away_33 rfl rfl mm1 ?_
      obtain ⟨s5, hc, h⟩ := h
      refine x_cv hP 37 [vI a] [] dX5_away_34 rfl (hG.W_2).o (by decide) rfl ml_RX5_194 im_X4_dropTruck se_X4_dropTruck it_RX4 pp_X4_dropTruck bd_X4_dropTruck rfl rfl ⟨Nat.le_refl _, Nat.le_refl _⟩ (by simp [pC]) hc ?_
      refine x_aloadn hP 38 0 dX5_away_37 rfl rfl mm0 ?_
      refine x_getr hP 41 2 dX5_away_38 rfl fl_RX5_10 (hG.O_1) (by decide) rfl (hG.R_1_0) ?_
      refine x_geti hP 44 dX5_away_41 rfl fl_RX5_60 (hG.W_2).o (by decide) rfl ?_
      exact x_iret hP dX5_away_44 ⟨Nat.le_refl _, Nat.le_refl _⟩ h
    · replace h := h.2 hbr
      refine x_ldc hP 24 dX5_away_22 rfl kc_RX5_190 ?_
      exact x_iret hP dX5_away_24 ⟨Nat.le_refl _, Nat.le_refl _⟩ h
  · replace h := h.2 hbr
    refine x_ldc hP 13 dX5_away_11 rfl kc_RX5_122 ?_
    exact x_iret hP dX5_away_13 ⟨Nat.le_refl _, Nat.le_refl _⟩ h
theorem k_X5_need_0 {d : Nat} {Q : pQ} {P : pP} {g : pG} {σ : pM} (hP : Clo (pCall d) yX5_need cX5_need (some .int) 4 0 0 Q P) (a : Int) (b : Int) (hG : gAll g) (h : ∃ (v1 : Int), Ca d yX4_isCell [vR (some 2), vI a] g σ [vI v1] g σ ∧ iR v1 ∧ (¬ v1 = 0 → ∃ (v2 : Int), Ca d yX5_within [vI b, vI 1, vI 3] g σ [vI v2] g σ ∧ iR v2 ∧ (¬ v2 = 0 → ∃ (v3 : Int), Ca d yX4_isPoured [vR (some 2), vI a] g σ [vI v3] g σ ∧ iR v3 ∧ (v3 = 0 → (0 ≤ a ∧ a < 9) ∧ ∃ (s4 : pM), Ca d yX5_beforeDeed [vR (some 1)] g σ [] g s4 ∧ (0 ≤ a ∧ a < 9) ∧ Q [vI (σ 3 (Int.toNat a))] g (up2 s4 3 (Int.toNat a) b)) ∧ (¬ (v3 = 0) → Q [vI ((-1000000003))] g σ)) ∧ (¬ (¬ v2 = 0) → Q [vI ((-1000000002))] g σ)) ∧ (¬ (¬ v1 = 0) → Q [vI ((-1000000001))] g σ)) : P 0 [(0, vR (some 1)), (1, vI a), (2, vI b)] [] g σ 0 0 := by
  refine x_aloadn hP 1 0 dX5_need_0 rfl rfl mm0 ?_
  refine x_getr hP 4 2 dX5_need_1 rfl fl_RX5_10 (hG.O_1) (by decide) rfl (hG.R_1_0) ?_
  refine x_iloadn hP 5 1 dX5_need_4 rfl rfl mm1 ?_
  obtain ⟨v1, hc, h⟩ := h
  refine x_cv hP 8 [vI a] [] dX5_need_5 rfl (hG.W_2).o (by decide) rfl ml_RX5_118 im_X4_isCell se_X4_isCell it_RX4 pp_X4_isCell bd_X4_isCell rfl rfl ⟨Nat.le_refl _, Nat.le_refl _⟩ (by simp [pC]) hc ?_
  obtain ⟨hs1, h⟩ := h
  refine x_ifc hP 11 14 (¬ v1 = 0) dX5_need_8 rfl rfl hs1 rfl (fun hbr => ?_) (fun hbr => ?_)
  · replace h := h.1 hbr
    refine x_iloadn hP 15 2 dX5_need_14 rfl rfl mm2 ?_
    refine x_iconst hP 16 dX5_need_15 rfl ?_
    refine x_iconst hP 17 dX5_need_16 rfl ?_
    obtain ⟨v2, hc, h⟩ := h
    refine x_cs hP 20 [vI b, vI 1, vI 3] [] dX5_need_17 rfl ml_RX5_164 sm_X5_within it_RX5 pp_X5_within bd_X5_within rfl rfl ⟨Nat.le_refl _, Nat.le_refl _⟩ (by simp [pC]) hc ?_
    obtain ⟨hs1, h⟩ := h
    refine x_ifc hP 23 26 (¬ v2 = 0) dX5_need_20 rfl rfl hs1 rfl (fun hbr => ?_) (fun hbr => ?_)
    · replace h := h.1 hbr
      refine x_aloadn hP 27 0 dX5_need_26 rfl rfl mm0 ?_
      refine x_getr hP 30 2 dX5_need_27 rfl fl_RX5_10 (hG.O_1) (by decide) rfl (hG.R_1_0) ?_
      refine x_iloadn hP 31 1 dX5_need_30 rfl rfl mm1 ?_
      obtain ⟨v3, hc, h⟩ := h
      refine x_cv hP 34 [vI a] [] dX5_need_31 rfl (hG.W_2).o (by decide) rfl ml_RX5_198 im_X4_isPoured se_X4_isPoured it_RX4 pp_X4_isPoured bd_X4_isPoured rfl rfl ⟨Nat.le_refl _, Nat.le_refl _⟩ (by simp [pC]) hc ?_
      obtain ⟨hs1, h⟩ := h
      refine x_ifc hP 37 40 (v3 = 0) dX5_need_34 rfl rfl hs1 rfl (fun hbr => ?_) (fun hbr => ?_)
      · replace h := h.1 hbr
        refine x_aloadn hP 41 0 dX5_need_40 rfl rfl mm0 ?_
        refine x_getr hP 44 2 dX5_need_41 rfl fl_RX5_10 (hG.O_1) (by decide) rfl (hG.R_1_0) ?_
        refine x_getr hP 47 3 dX5_need_44 rfl fl_RX5_123 (hG.W_2).o (by decide) rfl (hG.W_2).r1 ?_
        refine x_iloadn hP 48 1 dX5_need_47 rfl rfl mm1 ?_
        obtain ⟨hs, h⟩ := h
        refine x_iald hP 49 dX5_need_48 rfl (hG.W_2).a1 (by decide) hs ?_
        refine x_istoren hP 50 3 [(0, vR (some 1)), (1, vI a), (2, vI b), (3, vI (σ 3 (Int.toNat a)))] dX5_need_49 rfl rfl (by decide) rfl rfl ?_
        refine x_aloadn hP 51 0 dX5_need_50 rfl rfl mm0 ?_
        obtain ⟨s4, hc, h⟩ := h
        refine x_cv hP 54 [] [] dX5_need_51 rfl (hG.O_1) (by decide) rfl ml_RX5_171 im_X5_beforeDeed se_X5_beforeDeed it_RX5 pp_X5_beforeDeed bd_X5_beforeDeed rfl rfl ⟨Nat.le_refl _, Nat.le_refl _⟩ (by simp [pC]) hc ?_
        refine x_aloadn hP 55 0 dX5_need_54 rfl rfl mm0 ?_
        refine x_getr hP 58 2 dX5_need_55 rfl fl_RX5_10 (hG.O_1) (by decide) rfl (hG.R_1_0) ?_
        refine x_getr hP 61 3 dX5_need_58 rfl fl_RX5_123 (hG.W_2).o (by decide) rfl (hG.W_2).r1 ?_
        refine x_iloadn hP 62 1 dX5_need_61 rfl rfl mm1 ?_
        refine x_iloadn hP 63 2 dX5_need_62 rfl rfl mm2 ?_
        obtain ⟨hs1, h⟩ := h
        refine x_iast hP 64 dX5_need_63 rfl (hG.W_2).a1 (by decide) hs1 ?_
        refine x_iloadn hP 65 3 dX5_need_64 rfl rfl mm3 ?_
        exact x_iret hP dX5_need_65 ⟨Nat.le_refl _, Nat.le_refl _⟩ h
      · replace h := h.2 hbr
        refine x_ldc hP 39 dX5_need_37 rfl kc_RX5_190 ?_
        exact x_iret hP dX5_need_39 ⟨Nat.le_refl _, Nat.le_refl _⟩ h
    · replace h := h.2 hbr
      refine x_ldc hP 25 dX5_need_23 rfl kc_RX5_117 ?_
      exact x_iret hP dX5_need_25 ⟨Nat.le_refl _, Nat.le_refl _⟩ h
  · replace h := h.2 hbr
    refine x_ldc hP 13 dX5_need_11 rfl kc_RX5_122 ?_
    exact x_iret hP dX5_need_13 ⟨Nat.le_refl _, Nat.le_refl _⟩ h
theorem k_X5_bound_0 {d : Nat} {Q : pQ} {P : pP} {g : pG} {σ : pM} (hP : Clo (pCall d) yX5_bound cX5_bound (some .int) 4 0 0 Q P) (a : Int) (b : Int) (hG : gAll g) (h : iR a ∧ (¬ a = 0 → ∃ (v1 : Int), Ca d yX5_within [vI a, vI 0, vI 2] g σ [vI v1] g σ ∧ iR v1 ∧ (v1 = 0 → Q [vI ((-1000000002))] g σ) ∧ (¬ (v1 = 0) → ∃ (v2 : Int), Ca d yX5_within [vI b, vI 0, vI 9] g σ [vI v2] g σ ∧ iR v2 ∧ (¬ v2 = 0 → ∃ (s3 : pM), Ca d yX5_beforeDeed [vR (some 1)] g σ [] g s3 ∧ ∃ (v4 : Int) (s5 : pM), Ca d yX4_swapBound [vR (some 2), vI a, vI b] g s3 [vI v4] g s5 ∧ Q [vI v4] g s5) ∧ (¬ (¬ v2 = 0) → Q [vI ((-1000000002))] g σ))) ∧ (¬ (¬ a = 0) → ∃ (v6 : Int), Ca d yX5_within [vI a, vI 0, vI 2] g σ [vI v6] g σ ∧ iR v6 ∧ (v6 = 0 → Q [vI ((-1000000002))] g σ) ∧ (¬ (v6 = 0) → ∃ (v7 : Int), Ca d yX5_within [vI b, vI 1, vI 40] g σ [vI v7] g σ ∧ iR v7 ∧ (¬ v7 = 0 → ∃ (s8 : pM), Ca d yX5_beforeDeed [vR (some 1)] g σ [] g s8 ∧ ∃ (v9 : Int) (s10 : pM), Ca d yX4_swapBound [vR (some 2), vI a, vI b] g s8 [vI v9] g s10 ∧ Q [vI v9] g s10) ∧ (¬ (¬ v7 = 0) → Q [vI ((-1000000002))] g σ)))) : P 0 [(0, vR (some 1)), (1, vI a), (2, vI b)] [] g σ 0 0 := by
  refine x_iloadn hP 1 1 dX5_bound_0 rfl rfl mm1 ?_
  obtain ⟨hs1, h⟩ := h
  refine x_ifc hP 4 8 (¬ a = 0) dX5_bound_1 rfl rfl hs1 rfl (fun hbr => ?_) (fun hbr => ?_)
  · replace h := h.1 hbr
    refine x_iconst hP 9 dX5_bound_8 rfl ?_
    refine x_istoren hP 10 3 [(0, vR (some 1)), (1, vI a), (2, vI b), (3, vI 0)] dX5_bound_9 rfl rfl (by decide) rfl rfl ?_
    refine x_iloadn hP 11 1 dX5_bound_10 rfl rfl mm1 ?_
    refine x_iconst hP 12 dX5_bound_11 rfl ?_
    refine x_iconst hP 13 dX5_bound_12 rfl ?_
    obtain ⟨v1, hc, h⟩ := h
    refine x_cs hP 16 [vI a, vI 0, vI 2] [] dX5_bound_13 rfl ml_RX5_164 sm_X5_within it_RX5 pp_X5_within bd_X5_within rfl rfl ⟨Nat.le_refl _, Nat.le_refl _⟩ (by simp [pC]) hc ?_
    obtain ⟨hs1, h⟩ := h
    refine x_ifc hP 19 46 (v1 = 0) dX5_bound_16 rfl rfl hs1 rfl (fun hbr => ?_) (fun hbr => ?_)
    · replace h := h.1 hbr
      refine x_ldc hP 48 dX5_bound_46 rfl kc_RX5_117 ?_
      exact x_iret hP dX5_bound_48 ⟨Nat.le_refl _, Nat.le_refl _⟩ h
    · replace h := h.2 hbr
      refine x_iloadn hP 20 2 dX5_bound_19 rfl rfl mm2 ?_
      refine x_iloadn hP 21 3 dX5_bound_20 rfl rfl mm3 ?_
      refine x_ifc hP 24 28 ((0 : Int) = 0) dX5_bound_21 rfl rfl (by decide) rfl (fun _ => ?_) (fun hbr => absurd hbr (by decide))
      refine x_iconst hP 29 dX5_bound_28 rfl ?_
      refine x_iloadn hP 30 3 dX5_bound_29 rfl rfl mm3 ?_
      refine x_ifc hP 33 38 ((0 : Int) = 0) dX5_bound_30 rfl rfl (by decide) rfl (fun _ => ?_) (fun hbr => absurd hbr (by decide))
      refine x_bipush hP 40 dX5_bound_38 rfl (by decide) ?_
      obtain ⟨v2, hc, h⟩ := h
      refine x_cs hP 43 [vI b, vI 0, vI 9] [] dX5_bound_40 rfl ml_RX5_164 sm_X5_within it_RX5 pp_X5_within bd_X5_within rfl rfl ⟨Nat.le_refl _, Nat.le_refl _⟩ (by simp [pC]) hc ?_
      obtain ⟨hs1, h⟩ := h
      refine x_ifc hP 46 49 (¬ v2 = 0) dX5_bound_43 rfl rfl hs1 rfl (fun hbr => ?_) (fun hbr => ?_)
      · replace h := h.1 hbr
        refine x_aloadn hP 50 0 dX5_bound_49 rfl rfl mm0 ?_
        obtain ⟨s3, hc, h⟩ := h
        refine x_cv hP 53 [] [] dX5_bound_50 rfl (hG.O_1) (by decide) rfl ml_RX5_171 im_X5_beforeDeed se_X5_beforeDeed it_RX5 pp_X5_beforeDeed bd_X5_beforeDeed rfl rfl ⟨Nat.le_refl _, Nat.le_refl _⟩ (by simp [pC]) hc ?_
        refine x_aloadn hP 54 0 dX5_bound_53 rfl rfl mm0 ?_
        refine x_getr hP 57 2 dX5_bound_54 rfl fl_RX5_10 (hG.O_1) (by decide) rfl (hG.R_1_0) ?_
        refine x_iloadn hP 58 1 dX5_bound_57 rfl rfl mm1 ?_
        refine x_iloadn hP 59 2 dX5_bound_58 rfl rfl mm2 ?_
        obtain ⟨v4, s5, hc, h⟩ := h
        refine x_cv hP 62 [vI a, vI b] [] dX5_bound_59 rfl (hG.W_2).o (by decide) rfl ml_RX5_201 im_X4_swapBound se_X4_swapBound it_RX4 pp_X4_swapBound bd_X4_swapBound rfl rfl ⟨Nat.le_refl _, Nat.le_refl _⟩ (by simp [pC]) hc ?_
        exact x_iret hP dX5_bound_62 ⟨Nat.le_refl _, Nat.le_refl _⟩ h
      · replace h := h.2 hbr
        refine x_ldc hP 48 dX5_bound_46 rfl kc_RX5_117 ?_
        exact x_iret hP dX5_bound_48 ⟨Nat.le_refl _, Nat.le_refl _⟩ h
  · replace h := h.2 hbr
    refine x_iconst hP 5 dX5_bound_4 rfl ?_
    refine x_goto hP 9 dX5_bound_5 rfl ?_
    refine x_istoren hP 10 3 [(0, vR (some 1)), (1, vI a), (2, vI b), (3, vI 1)] dX5_bound_9 rfl rfl (by decide) rfl rfl ?_
    refine x_iloadn hP 11 1 dX5_bound_10 rfl rfl mm1 ?_
    refine x_iconst hP 12 dX5_bound_11 rfl ?_
    refine x_iconst hP 13 dX5_bound_12 rfl ?_
    obtain ⟨v6, hc, h⟩ := h
    refine x_cs hP 16 [vI a, vI 0, vI 2] [] dX5_bound_13 rfl ml_RX5_164 sm_X5_within it_RX5 pp_X5_within bd_X5_within rfl rfl ⟨Nat.le_refl _, Nat.le_refl _⟩ (by simp [pC]) hc ?_
    obtain ⟨hs1, h⟩ := h
    refine x_ifc hP 19 46 (v6 = 0) dX5_bound_16 rfl rfl hs1 rfl (fun hbr => ?_) (fun hbr => ?_)
    · replace h := h.1 hbr
      refine x_ldc hP 48 dX5_bound_46 rfl kc_RX5_117 ?_
      exact x_iret hP dX5_bound_48 ⟨Nat.le_refl _, Nat.le_refl _⟩ h
    · replace h := h.2 hbr
      refine x_iloadn hP 20 2 dX5_bound_19 rfl rfl mm2 ?_
      refine x_iloadn hP 21 3 dX5_bound_20 rfl rfl mm3 ?_
      refine x_ifc hP 24 28 ((1 : Int) = 0) dX5_bound_21 rfl rfl (by decide) rfl (fun hbr => absurd hbr (by decide)) (fun _ => ?_)
      refine x_iconst hP 25 dX5_bound_24 rfl ?_
      refine x_goto hP 29 dX5_bound_25 rfl ?_
      refine x_iloadn hP 30 3 dX5_bound_29 rfl rfl mm3 ?_
      refine x_ifc hP 33 38 ((1 : Int) = 0) dX5_bound_30 rfl rfl (by decide) rfl (fun hbr => absurd hbr (by decide)) (fun _ => ?_)
      refine x_bipush hP 35 dX5_bound_33 rfl (by decide) ?_
      refine x_goto hP 40 dX5_bound_35 rfl ?_
      obtain ⟨v7, hc, h⟩ := h
      refine x_cs hP 43 [vI b, vI 1, vI 40] [] dX5_bound_40 rfl ml_RX5_164 sm_X5_within it_RX5 pp_X5_within bd_X5_within rfl rfl ⟨Nat.le_refl _, Nat.le_refl _⟩ (by simp [pC]) hc ?_
      obtain ⟨hs1, h⟩ := h
      refine x_ifc hP 46 49 (¬ v7 = 0) dX5_bound_43 rfl rfl hs1 rfl (fun hbr => ?_) (fun hbr => ?_)
      · replace h := h.1 hbr
        refine x_aloadn hP 50 0 dX5_bound_49 rfl rfl mm0 ?_
        obtain ⟨s8, hc, h⟩ := h
        refine x_cv hP 53 [] [] dX5_bound_50 rfl (hG.O_1) (by decide) rfl ml_RX5_171 im_X5_beforeDeed se_X5_beforeDeed it_RX5 pp_X5_beforeDeed bd_X5_beforeDeed rfl rfl ⟨Nat.le_refl _, Nat.le_refl _⟩ (by simp [pC]) hc ?_
        refine x_aloadn hP 54 0 dX5_bound_53 rfl rfl mm0 ?_
        refine x_getr hP 57 2 dX5_bound_54 rfl fl_RX5_10 (hG.O_1) (by decide) rfl (hG.R_1_0) ?_
        refine x_iloadn hP 58 1 dX5_bound_57 rfl rfl mm1 ?_
        refine x_iloadn hP 59 2 dX5_bound_58 rfl rfl mm2 ?_
        obtain ⟨v9, s10, hc, h⟩ := h
        refine x_cv hP 62 [vI a, vI b] [] dX5_bound_59 rfl (hG.W_2).o (by decide) rfl ml_RX5_201 im_X4_swapBound se_X4_swapBound it_RX4 pp_X4_swapBound bd_X4_swapBound rfl rfl ⟨Nat.le_refl _, Nat.le_refl _⟩ (by simp [pC]) hc ?_
        exact x_iret hP dX5_bound_62 ⟨Nat.le_refl _, Nat.le_refl _⟩ h
      · replace h := h.2 hbr
        refine x_ldc hP 48 dX5_bound_46 rfl kc_RX5_117 ?_
        exact x_iret hP dX5_bound_48 ⟨Nat.le_refl _, Nat.le_refl _⟩ h
theorem k_X5_pour_0 {d : Nat} {Q : pQ} {P : pP} {g : pG} {σ : pM} (hP : Clo (pCall d) yX5_pour cX5_pour (some .int) 2 0 0 Q P) (a : Int) (hG : gAll g) (h : ∃ (v1 : Int), Ca d yX4_isCell [vR (some 2), vI a] g σ [vI v1] g σ ∧ iR v1 ∧ (¬ v1 = 0 → ∃ (v2 : Int), Ca d yX4_startOf [vR (some 2), vI a] g σ [vI v2] g σ ∧ iR v2 ∧ (¬ v2 = ((-1)) → ∃ (s3 : pM), Ca d yX5_beforeDeed [vR (some 1)] g σ [] g s3 ∧ ∃ (s4 : pM), Ca d yX4_fill [vR (some 2), vI a] g s3 [] g s4 ∧ ∃ (v5 : Int), Ca d yX4_harm [vR (some 2)] g s4 [vI v5] g s4 ∧ Q [vI v5] g s4) ∧ (¬ (¬ v2 = ((-1))) → Q [vI ((-1000000003))] g σ)) ∧ (¬ (¬ v1 = 0) → Q [vI ((-1000000001))] g σ)) : P 0 [(0, vR (some 1)), (1, vI a)] [] g σ 0 0 := by
  refine x_aloadn hP 1 0 dX5_pour_0 rfl rfl mm0 ?_
  refine x_getr hP 4 2 dX5_pour_1 rfl fl_RX5_10 (hG.O_1) (by decide) rfl (hG.R_1_0) ?_
  refine x_iloadn hP 5 1 dX5_pour_4 rfl rfl mm1 ?_
  obtain ⟨v1, hc, h⟩ := h
  refine x_cv hP 8 [vI a] [] dX5_pour_5 rfl (hG.W_2).o (by decide) rfl ml_RX5_118 im_X4_isCell se_X4_isCell it_RX4 pp_X4_isCell bd_X4_isCell rfl rfl ⟨Nat.le_refl _, Nat.le_refl _⟩ (by simp [pC]) hc ?_
  obtain ⟨hs1, h⟩ := h
  refine x_ifc hP 11 14 (¬ v1 = 0) dX5_pour_8 rfl rfl hs1 rfl (fun hbr => ?_) (fun hbr => ?_)
  · replace h := h.1 hbr
    refine x_aloadn hP 15 0 dX5_pour_14 rfl rfl mm0 ?_
    refine x_getr hP 18 2 dX5_pour_15 rfl fl_RX5_10 (hG.O_1) (by decide) rfl (hG.R_1_0) ?_
    refine x_iloadn hP 19 1 dX5_pour_18 rfl rfl mm1 ?_
    obtain ⟨v2, hc, h⟩ := h
    refine x_cv hP 22 [vI a] [] dX5_pour_19 rfl (hG.W_2).o (by decide) rfl ml_RX5_133 im_X4_startOf se_X4_startOf it_RX4 pp_X4_startOf bd_X4_startOf rfl rfl ⟨Nat.le_refl _, Nat.le_refl _⟩ (by simp [pC]) hc ?_
    refine x_iconst hP 23 dX5_pour_22 rfl ?_
    obtain ⟨hs1, h⟩ := h
    refine x_icmp hP 26 29 (¬ v2 = ((-1))) dX5_pour_23 rfl rfl hs1 (by decide) rfl (fun hbr => ?_) (fun hbr => ?_)
    · replace h := h.1 hbr
      refine x_aloadn hP 30 0 dX5_pour_29 rfl rfl mm0 ?_
      obtain ⟨s3, hc, h⟩ := h
      refine x_cv hP 33 [] [] dX5_pour_30 rfl (hG.O_1) (by decide) rfl ml_RX5_171 im_X5_beforeDeed se_X5_beforeDeed it_RX5 pp_X5_beforeDeed bd_X5_beforeDeed rfl rfl ⟨Nat.le_refl _, Nat.le_refl _⟩ (by simp [pC]) hc ?_
      refine x_aloadn hP 34 0 dX5_pour_33 rfl rfl mm0 ?_
      refine x_getr hP 37 2 dX5_pour_34 rfl fl_RX5_10 (hG.O_1) (by decide) rfl (hG.R_1_0) ?_
      refine x_iloadn hP 38 1 dX5_pour_37 rfl rfl mm1 ?_
      obtain ⟨s4, hc, h⟩ := h
      refine x_cv hP 41 [vI a] [] dX5_pour_38 rfl (hG.W_2).o (by decide) rfl ml_RX5_204 im_X4_fill se_X4_fill it_RX4 pp_X4_fill bd_X4_fill rfl rfl ⟨Nat.le_refl _, Nat.le_refl _⟩ (by simp [pC]) hc ?_
      refine x_aloadn hP 42 0 dX5_pour_41 rfl rfl mm0 ?_
      refine x_getr hP 45 2 dX5_pour_42 rfl fl_RX5_10 (hG.O_1) (by decide) rfl (hG.R_1_0) ?_
      obtain ⟨v5, hc, h⟩ := h
      refine x_cv hP 48 [] [] dX5_pour_45 rfl (hG.W_2).o (by decide) rfl ml_RX5_85 im_X4_harm se_X4_harm it_RX4 pp_X4_harm bd_X4_harm rfl rfl ⟨Nat.le_refl _, Nat.le_refl _⟩ (by simp [pC]) hc ?_
      exact x_iret hP dX5_pour_48 ⟨Nat.le_refl _, Nat.le_refl _⟩ h
    · replace h := h.2 hbr
      refine x_ldc hP 28 dX5_pour_26 rfl kc_RX5_190 ?_
      exact x_iret hP dX5_pour_28 ⟨Nat.le_refl _, Nat.le_refl _⟩ h
  · replace h := h.2 hbr
    refine x_ldc hP 13 dX5_pour_11 rfl kc_RX5_122 ?_
    exact x_iret hP dX5_pour_13 ⟨Nat.le_refl _, Nat.le_refl _⟩ h
theorem k_X5_rest_0 {d : Nat} {Q : pQ} {P : pP} {g : pG} {σ : pM} (hP : Clo (pCall d) yX5_rest cX5_rest (some .int) 2 0 0 Q P) (a : Int) (hG : gAll g) (h : ∃ (v1 : Int), Ca d yX5_within [vI a, vI 1, vI 40] g σ [vI v1] g σ ∧ iR v1 ∧ (¬ v1 = 0 → iR ((σ 2 3) + a) ∧ (((σ 2 3) + a) ≤ 9999 → ∃ (s2 : pM), Ca d yX5_beforeDeed [vR (some 1)] g σ [] g s2 ∧ Q [vI ((up2 s2 2 3 ((s2 2 3) + a)) 2 3)] g (up2 s2 2 3 ((s2 2 3) + a))) ∧ (¬ (((σ 2 3) + a) ≤ 9999) → Q [vI ((-1000000003))] g σ)) ∧ (¬ (¬ v1 = 0) → Q [vI ((-1000000002))] g σ)) : P 0 [(0, vR (some 1)), (1, vI a)] [] g σ 0 0 := by
  refine x_iloadn hP 1 1 dX5_rest_0 rfl rfl mm1 ?_
  refine x_iconst hP 2 dX5_rest_1 rfl ?_
  refine x_bipush hP 4 dX5_rest_2 rfl (by decide) ?_
  obtain ⟨v1, hc, h⟩ := h
  refine x_cs hP 7 [vI a, vI 1, vI 40] [] dX5_rest_4 rfl ml_RX5_164 sm_X5_within it_RX5 pp_X5_within bd_X5_within rfl rfl ⟨Nat.le_refl _, Nat.le_refl _⟩ (by simp [pC]) hc ?_
  obtain ⟨hs1, h⟩ := h
  refine x_ifc hP 10 13 (¬ v1 = 0) dX5_rest_7 rfl rfl hs1 rfl (fun hbr => ?_) (fun hbr => ?_)
  · replace h := h.1 hbr
    refine x_aloadn hP 14 0 dX5_rest_13 rfl rfl mm0 ?_
    refine x_getr hP 17 2 dX5_rest_14 rfl fl_RX5_10 (hG.O_1) (by decide) rfl (hG.R_1_0) ?_
    refine x_geti hP 20 dX5_rest_17 rfl fl_RX5_57 (hG.W_2).o (by decide) rfl ?_
    refine x_iloadn hP 21 1 dX5_rest_20 rfl rfl mm1 ?_
    refine x_iadd hP 22 dX5_rest_21 rfl ?_
    refine x_sipush hP 25 dX5_rest_22 rfl (by decide) ?_
    obtain ⟨hs1, h⟩ := h
    refine x_icmp hP 28 31 (((σ 2 3) + a) ≤ 9999) dX5_rest_25 rfl rfl hs1 (by decide) rfl (fun hbr => ?_) (fun hbr => ?_)
    · replace h := h.1 hbr
      refine x_aloadn hP 32 0 dX5_rest_31 rfl rfl mm0 ?_
      obtain ⟨s2, hc, h⟩ := h
      refine x_cv hP 35 [] [] dX5_rest_32 rfl (hG.O_1) (by decide) rfl ml_RX5_171 im_X5_beforeDeed se_X5_beforeDeed it_RX5 pp_X5_beforeDeed bd_X5_beforeDeed rfl rfl ⟨Nat.le_refl _, Nat.le_refl _⟩ (by simp [pC]) hc ?_
      refine x_aloadn hP 36 0 dX5_rest_35 rfl rfl mm0 ?_
      refine x_getr hP 39 2 dX5_rest_36 rfl fl_RX5_10 (hG.O_1) (by decide) rfl (hG.R_1_0) ?_
      refine x_dup hP 40 dX5_rest_39 rfl rfl ?_
      refine x_geti hP 43 dX5_rest_40 rfl fl_RX5_57 (hG.W_2).o (by decide) rfl ?_
      refine x_iloadn hP 44 1 dX5_rest_43 rfl rfl mm1 ?_
      refine x_iadd hP 45 dX5_rest_44 rfl ?_
      refine x_putf hP 48 dX5_rest_45 rfl fl_RX5_57 (hG.W_2).o (by decide) rfl rfl (fun hz => absurd hz (by decide)) ?_
      refine x_aloadn hP 49 0 dX5_rest_48 rfl rfl mm0 ?_
      refine x_getr hP 52 2 dX5_rest_49 rfl fl_RX5_10 (hG.O_1) (by decide) rfl (hG.R_1_0) ?_
      refine x_geti hP 55 dX5_rest_52 rfl fl_RX5_57 (hG.W_2).o (by decide) rfl ?_
      exact x_iret hP dX5_rest_55 ⟨Nat.le_refl _, Nat.le_refl _⟩ h
    · replace h := h.2 hbr
      refine x_ldc hP 30 dX5_rest_28 rfl kc_RX5_190 ?_
      exact x_iret hP dX5_rest_30 ⟨Nat.le_refl _, Nat.le_refl _⟩ h
  · replace h := h.2 hbr
    refine x_ldc hP 12 dX5_rest_10 rfl kc_RX5_117 ?_
    exact x_iret hP dX5_rest_12 ⟨Nat.le_refl _, Nat.le_refl _⟩ h
theorem k_X5_follow_0 {d : Nat} {Q : pQ} {P : pP} {g : pG} {σ : pM} (hP : Clo (pCall d) yX5_follow cX5_follow (some .int) 2 0 0 Q P) (hG : gAll g) (h : ∃ (s1 : pM), Ca d yX5_plan [vR (some 1)] g σ [vR (some 14)] g s1 ∧ ∃ (v2 : Int), Ca d yX3_cellAt [vR (some 14), vI 0] g s1 [vI v2] g s1 ∧ iR v2 ∧ (¬ v2 = ((-1)) → ∃ (s3 : pM), Ca d yX5_beforeDeed [vR (some 1)] g s1 [] g s3 ∧ ∃ (s4 : pM), Ca d yX4_fill [vR (some 2), vI v2] g s3 [] g s4 ∧ Q [vI v2] g s4) ∧ (¬ (¬ v2 = ((-1))) → Q [vI ((-1000000003))] g s1)) : P 0 [(0, vR (some 1))] [] g σ 0 0 := by
  refine x_aloadn hP 1 0 dX5_follow_0 rfl rfl mm0 ?_
  obtain ⟨s1, hc, h⟩ := h
  refine x_cv hP 4 [] [] dX5_follow_1 rfl (hG.O_1) (by decide) rfl ml_RX5_91 im_X5_plan se_X5_plan it_RX5 pp_X5_plan bd_X5_plan rfl rfl ⟨Nat.le_refl _, Nat.le_refl _⟩ (by simp [pC]) hc ?_
  refine x_iconst hP 5 dX5_follow_4 rfl ?_
  obtain ⟨v2, hc, h⟩ := h
  refine x_cv hP 8 [vI 0] [] dX5_follow_5 rfl hG.P_14.o (by decide) rfl ml_RX5_207 im_X3_cellAt se_X3_cellAt it_RX3 pp_X3_cellAt bd_X3_cellAt rfl rfl ⟨Nat.le_refl _, Nat.le_refl _⟩ (by simp [pC]) hc ?_
  refine x_istoren hP 9 1 [(0, vR (some 1)), (1, vI v2)] dX5_follow_8 rfl rfl (by decide) rfl rfl ?_
  refine x_iloadn hP 10 1 dX5_follow_9 rfl rfl mm1 ?_
  refine x_iconst hP 11 dX5_follow_10 rfl ?_
  obtain ⟨hs1, h⟩ := h
  refine x_icmp hP 14 17 (¬ v2 = ((-1))) dX5_follow_11 rfl rfl hs1 (by decide) rfl (fun hbr => ?_) (fun hbr => ?_)
  · replace h := h.1 hbr
    refine x_aloadn hP 18 0 dX5_follow_17 rfl rfl mm0 ?_
    obtain ⟨s3, hc, h⟩ := h
    refine x_cv hP 21 [] [] dX5_follow_18 rfl (hG.O_1) (by decide) rfl ml_RX5_171 im_X5_beforeDeed se_X5_beforeDeed it_RX5 pp_X5_beforeDeed bd_X5_beforeDeed rfl rfl ⟨Nat.le_refl _, Nat.le_refl _⟩ (by simp [pC]) hc ?_
    refine x_aloadn hP 22 0 dX5_follow_21 rfl rfl mm0 ?_
    refine x_getr hP 25 2 dX5_follow_22 rfl fl_RX5_10 (hG.O_1) (by decide) rfl (hG.R_1_0) ?_
    refine x_iloadn hP 26 1 dX5_follow_25 rfl rfl mm1 ?_
    obtain ⟨s4, hc, h⟩ := h
    refine x_cv hP 29 [vI v2] [] dX5_follow_26 rfl (hG.W_2).o (by decide) rfl ml_RX5_204 im_X4_fill se_X4_fill it_RX4 pp_X4_fill bd_X4_fill rfl rfl ⟨Nat.le_refl _, Nat.le_refl _⟩ (by simp [pC]) hc ?_
    refine x_iloadn hP 30 1 dX5_follow_29 rfl rfl mm1 ?_
    exact x_iret hP dX5_follow_30 ⟨Nat.le_refl _, Nat.le_refl _⟩ h
  · replace h := h.2 hbr
    refine x_ldc hP 16 dX5_follow_14 rfl kc_RX5_190 ?_
    exact x_iret hP dX5_follow_16 ⟨Nat.le_refl _, Nat.le_refl _⟩ h
theorem k_X5_drift_0 {d : Nat} {Q : pQ} {P : pP} {g : pG} {σ : pM} (hP : Clo (pCall d) yX5_drift cX5_drift (some .int) 3 0 0 Q P) (a : Int) (hG : gAll g) (h : ∃ (v1 : Int), Ca d yX5_within [vI a, vI 1, vI 20] g σ [vI v1] g σ ∧ iR v1 ∧ (¬ v1 = 0 → P 15 [(0, vR (some 1)), (1, vI a), (2, vI 0)] [] g σ 0 0) ∧ (¬ (¬ v1 = 0) → Q [vI ((-1000000002))] g σ)) : P 0 [(0, vR (some 1)), (1, vI a)] [] g σ 0 0 := by
  refine x_iloadn hP 1 1 dX5_drift_0 rfl rfl mm1 ?_
  refine x_iconst hP 2 dX5_drift_1 rfl ?_
  refine x_bipush hP 4 dX5_drift_2 rfl (by decide) ?_
  obtain ⟨v1, hc, h⟩ := h
  refine x_cs hP 7 [vI a, vI 1, vI 20] [] dX5_drift_4 rfl ml_RX5_164 sm_X5_within it_RX5 pp_X5_within bd_X5_within rfl rfl ⟨Nat.le_refl _, Nat.le_refl _⟩ (by simp [pC]) hc ?_
  obtain ⟨hs1, h⟩ := h
  refine x_ifc hP 10 13 (¬ v1 = 0) dX5_drift_7 rfl rfl hs1 rfl (fun hbr => ?_) (fun hbr => ?_)
  · replace h := h.1 hbr
    refine x_iconst hP 14 dX5_drift_13 rfl ?_
    refine x_istoren hP 15 2 [(0, vR (some 1)), (1, vI a), (2, vI 0)] dX5_drift_14 rfl rfl (by decide) rfl rfl ?_
    exact h
  · replace h := h.2 hbr
    refine x_ldc hP 12 dX5_drift_10 rfl kc_RX5_117 ?_
    exact x_iret hP dX5_drift_12 ⟨Nat.le_refl _, Nat.le_refl _⟩ h
theorem k_X5_drift_15 {d : Nat} {Q : pQ} {P : pP} {g : pG} {σ : pM} (hP : Clo (pCall d) yX5_drift cX5_drift (some .int) 3 0 0 Q P) (x1 : Int) (x2 : Int) (hG : gAll g) (h : iR x2 ∧ iR x1 ∧ (x1 ≤ x2 → ∃ (v1 : Int), Ca d yX4_pouredCount [vR (some 2)] g σ [vI v1] g σ ∧ Q [vI v1] g σ) ∧ (¬ (x1 ≤ x2) → ∃ (s2 : pM), Ca d yX5_driftOnce [vR (some 1)] g σ [] g s2 ∧ P 15 [(0, vR (some 1)), (1, vI x1), (2, vI (x2 + 1))] [] g s2 0 0)) : P 15 [(0, vR (some 1)), (1, vI x1), (2, vI x2)] [] g σ 0 0 := by
  refine x_iloadn hP 16 2 dX5_drift_15 rfl rfl mm2 ?_
  refine x_iloadn hP 17 1 dX5_drift_16 rfl rfl mm1 ?_
  obtain ⟨hs1, hs2, h⟩ := h
  refine x_icmp hP 20 30 (x1 ≤ x2) dX5_drift_17 rfl rfl hs1 hs2 rfl (fun hbr => ?_) (fun hbr => ?_)
  · replace h := h.1 hbr
    refine x_aloadn hP 31 0 dX5_drift_30 rfl rfl mm0 ?_
    refine x_getr hP 34 2 dX5_drift_31 rfl fl_RX5_10 (hG.O_1) (by decide) rfl (hG.R_1_0) ?_
    obtain ⟨v1, hc, h⟩ := h
    refine x_cv hP 37 [] [] dX5_drift_34 rfl (hG.W_2).o (by decide) rfl ml_RX5_168 im_X4_pouredCount se_X4_pouredCount it_RX4 pp_X4_pouredCount bd_X4_pouredCount rfl rfl ⟨Nat.le_refl _, Nat.le_refl _⟩ (by simp [pC]) hc ?_
    exact x_iret hP dX5_drift_37 ⟨Nat.le_refl _, Nat.le_refl _⟩ h
  · replace h := h.2 hbr
    refine x_aloadn hP 21 0 dX5_drift_20 rfl rfl mm0 ?_
    obtain ⟨s2, hc, h⟩ := h
    refine x_cv hP 24 [] [] dX5_drift_21 rfl (hG.O_1) (by decide) rfl ml_RX5_210 im_X5_driftOnce se_X5_driftOnce it_RX5 pp_X5_driftOnce bd_X5_driftOnce rfl rfl ⟨Nat.le_refl _, Nat.le_refl _⟩ (by simp [pC]) hc ?_
    refine x_iinc hP 27 [(0, vR (some 1)), (1, vI x1), (2, vI (x2 + 1))] dX5_drift_24 rfl mm2 (by decide) rfl rfl ?_
    refine x_goto hP 15 dX5_drift_27 rfl ?_
    exact h
theorem k_X5_undo_0 {d : Nat} {Q : pQ} {P : pP} {g : pG} {σ : pM} (hP : Clo (pCall d) yX5_undo cX5_undo (some .int) 2 0 0 Q P) (a : Int) (hG : gAll g) (h : ∃ (v1 : Int), Ca d yX5_within [vI a, vI 1, vI 20] g σ [vI v1] g σ ∧ iR v1 ∧ (¬ v1 = 0 → iR a ∧ iR (σ 26 0) ∧ (a ≤ (σ 26 0) → ∃ (s2 : pM), Ca d yX1_takeBack [vR (some 26), vI a, vR (some 2)] g σ [] g s2 ∧ Q [vI ((up2 s2 1 8 0) 2 3)] g (up2 s2 1 8 0)) ∧ (¬ (a ≤ (σ 26 0)) → Q [vI ((-1000000003))] g σ)) ∧ (¬ (¬ v1 = 0) → Q [vI ((-1000000002))] g σ)) : P 0 [(0, vR (some 1)), (1, vI a)] [] g σ 0 0 := by
  refine x_iloadn hP 1 1 dX5_undo_0 rfl rfl mm1 ?_
  refine x_iconst hP 2 dX5_undo_1 rfl ?_
  refine x_bipush hP 4 dX5_undo_2 rfl (by decide) ?_
  obtain ⟨v1, hc, h⟩ := h
  refine x_cs hP 7 [vI a, vI 1, vI 20] [] dX5_undo_4 rfl ml_RX5_164 sm_X5_within it_RX5 pp_X5_within bd_X5_within rfl rfl ⟨Nat.le_refl _, Nat.le_refl _⟩ (by simp [pC]) hc ?_
  obtain ⟨hs1, h⟩ := h
  refine x_ifc hP 10 13 (¬ v1 = 0) dX5_undo_7 rfl rfl hs1 rfl (fun hbr => ?_) (fun hbr => ?_)
  · replace h := h.1 hbr
    refine x_iloadn hP 14 1 dX5_undo_13 rfl rfl mm1 ?_
    refine x_aloadn hP 15 0 dX5_undo_14 rfl rfl mm0 ?_
    refine x_getr hP 18 26 dX5_undo_15 rfl fl_RX5_32 (hG.O_1) (by decide) rfl (hG.R_1_4) ?_
    refine x_geti hP 21 dX5_undo_18 rfl fl_RX5_114 (hG.O_26) (by decide) rfl ?_
    obtain ⟨hs1, hs2, h⟩ := h
    refine x_icmp hP 24 27 (a ≤ (σ 26 0)) dX5_undo_21 rfl rfl hs1 hs2 rfl (fun hbr => ?_) (fun hbr => ?_)
    · replace h := h.1 hbr
      refine x_aloadn hP 28 0 dX5_undo_27 rfl rfl mm0 ?_
      refine x_getr hP 31 26 dX5_undo_28 rfl fl_RX5_32 (hG.O_1) (by decide) rfl (hG.R_1_4) ?_
      refine x_iloadn hP 32 1 dX5_undo_31 rfl rfl mm1 ?_
      refine x_aloadn hP 33 0 dX5_undo_32 rfl rfl mm0 ?_
      refine x_getr hP 36 2 dX5_undo_33 rfl fl_RX5_10 (hG.O_1) (by decide) rfl (hG.R_1_0) ?_
      obtain ⟨s2, hc, h⟩ := h
      refine x_cv hP 39 [vI a, vR (some 2)] [] dX5_undo_36 rfl (hG.O_26) (by decide) rfl ml_RX5_213 im_X1_takeBack se_X1_takeBack it_RX1 pp_X1_takeBack bd_X1_takeBack rfl rfl ⟨Nat.le_refl _, Nat.le_refl _⟩ (by simp [pC]) hc ?_
      refine x_aloadn hP 40 0 dX5_undo_39 rfl rfl mm0 ?_
      refine x_iconst hP 41 dX5_undo_40 rfl ?_
      refine x_putf hP 44 dX5_undo_41 rfl fl_RX5_217 (hG.O_1) (by decide) rfl rfl (fun _ => by decide) ?_
      refine x_aloadn hP 45 0 dX5_undo_44 rfl rfl mm0 ?_
      refine x_getr hP 48 2 dX5_undo_45 rfl fl_RX5_10 (hG.O_1) (by decide) rfl (hG.R_1_0) ?_
      refine x_geti hP 51 dX5_undo_48 rfl fl_RX5_57 (hG.W_2).o (by decide) rfl ?_
      exact x_iret hP dX5_undo_51 ⟨Nat.le_refl _, Nat.le_refl _⟩ h
    · replace h := h.2 hbr
      refine x_ldc hP 26 dX5_undo_24 rfl kc_RX5_190 ?_
      exact x_iret hP dX5_undo_26 ⟨Nat.le_refl _, Nat.le_refl _⟩ h
  · replace h := h.2 hbr
    refine x_ldc hP 12 dX5_undo_10 rfl kc_RX5_117 ?_
    exact x_iret hP dX5_undo_12 ⟨Nat.le_refl _, Nat.le_refl _⟩ h
theorem k_X5_best_0 {d : Nat} {Q : pQ} {P : pP} {g : pG} {σ : pM} (hP : Clo (pCall d) yX5_best cX5_best (some .int) 2 0 0 Q P) (a : Int) (hG : gAll g) (h : ∃ (s1 : pM), Ca d yX5_plan [vR (some 1)] g σ [vR (some 14)] g s1 ∧ ∃ (v2 : Int), Ca d yX3_cellAt [vR (some 14), vI a] g s1 [vI v2] g s1 ∧ Q [vI v2] g s1) : P 0 [(0, vR (some 1)), (1, vI a)] [] g σ 0 0 := by
  refine x_aloadn hP 1 0 dX5_best_0 rfl rfl mm0 ?_
  obtain ⟨s1, hc, h⟩ := h
  refine x_cv hP 4 [] [] dX5_best_1 rfl (hG.O_1) (by decide) rfl ml_RX5_91 im_X5_plan se_X5_plan it_RX5 pp_X5_plan bd_X5_plan rfl rfl ⟨Nat.le_refl _, Nat.le_refl _⟩ (by simp [pC]) hc ?_
  refine x_iloadn hP 5 1 dX5_best_4 rfl rfl mm1 ?_
  obtain ⟨v2, hc, h⟩ := h
  refine x_cv hP 8 [vI a] [] dX5_best_5 rfl hG.P_14.o (by decide) rfl ml_RX5_207 im_X3_cellAt se_X3_cellAt it_RX3 pp_X3_cellAt bd_X3_cellAt rfl rfl ⟨Nat.le_refl _, Nat.le_refl _⟩ (by simp [pC]) hc ?_
  exact x_iret hP dX5_best_8 ⟨Nat.le_refl _, Nat.le_refl _⟩ h
theorem k_X5_stop_0 {d : Nat} {Q : pQ} {P : pP} {g : pG} {σ : pM} (hP : Clo (pCall d) yX5_stop cX5_stop (some .int) 7 0 0 Q P) (a : Int) (hG : gAll g) (h : ∃ (v1 : Int), Ca d yX5_within [vI a, vI 0, vI 1] g σ [vI v1] g σ ∧ iR v1 ∧ (¬ v1 = 0 → ∃ (s2 : pM), Ca d yX5_plan [vR (some 1)] g σ [vR (some 14)] g s2 ∧ iR (s2 14 0) ∧ (¬ (s2 14 0) = 0 → ∃ (s3 : pM), Ca d yX4_copyFrom [vR (some 8), vR (some 2)] g s2 [] g s3 ∧ ∃ (v4 : Int), Ca d yX4_stoppedHarm [vR (some 8)] g s3 [vI v4] g s3 ∧ P 51 [(0, vR (some 1)), (1, vI a), (2, vR (some 14)), (3, vI v4), (4, vI 0), (5, vI 0)] [] g s3 0 0) ∧ (¬ (¬ (s2 14 0) = 0) → Q [vI ((-1))] g s2)) ∧ (¬ (¬ v1 = 0) → Q [vI ((-1000000002))] g σ)) : P 0 [(0, vR (some 1)), (1, vI a)] [] g σ 0 0 := by
  refine x_iloadn hP 1 1 dX5_stop_0 rfl rfl mm1 ?_
  refine x_iconst hP 2 dX5_stop_1 rfl ?_
  refine x_iconst hP 3 dX5_stop_2 rfl ?_
  obtain ⟨v1, hc, h⟩ := h
  refine x_cs hP 6 [vI a, vI 0, vI 1] [] dX5_stop_3 rfl ml_RX5_164 sm_X5_within it_RX5 pp_X5_within bd_X5_within rfl rfl ⟨Nat.le_refl _, Nat.le_refl _⟩ (by simp [pC]) hc ?_
  obtain ⟨hs1, h⟩ := h
  refine x_ifc hP 9 12 (¬ v1 = 0) dX5_stop_6 rfl rfl hs1 rfl (fun hbr => ?_) (fun hbr => ?_)
  · replace h := h.1 hbr
    refine x_aloadn hP 13 0 dX5_stop_12 rfl rfl mm0 ?_
    obtain ⟨s2, hc, h⟩ := h
    refine x_cv hP 16 [] [] dX5_stop_13 rfl (hG.O_1) (by decide) rfl ml_RX5_91 im_X5_plan se_X5_plan it_RX5 pp_X5_plan bd_X5_plan rfl rfl ⟨Nat.le_refl _, Nat.le_refl _⟩ (by simp [pC]) hc ?_
    refine x_astoren hP 17 2 [(0, vR (some 1)), (1, vI a), (2, vR (some 14))] dX5_stop_16 rfl rfl (by decide) rfl rfl ?_
    refine x_aloadn hP 18 2 dX5_stop_17 rfl rfl mm2 ?_
    refine x_geti hP 21 dX5_stop_18 rfl fl_RX5_221 hG.P_14.o (by decide) rfl ?_
    obtain ⟨hs1, h⟩ := h
    refine x_ifc hP 24 26 (¬ (s2 14 0) = 0) dX5_stop_21 rfl rfl hs1 rfl (fun hbr => ?_) (fun hbr => ?_)
    · replace h := h.1 hbr
      refine x_aloadn hP 27 0 dX5_stop_26 rfl rfl mm0 ?_
      refine x_getr hP 30 8 dX5_stop_27 rfl fl_RX5_16 (hG.O_1) (by decide) rfl (hG.R_1_1) ?_
      refine x_aloadn hP 31 0 dX5_stop_30 rfl rfl mm0 ?_
      refine x_getr hP 34 2 dX5_stop_31 rfl fl_RX5_10 (hG.O_1) (by decide) rfl (hG.R_1_0) ?_
      obtain ⟨s3, hc, h⟩ := h
      refine x_cv hP 37 [vR (some 2)] [] dX5_stop_34 rfl (hG.W_8).o (by decide) rfl ml_RX5_224 im_X4_copyFrom se_X4_copyFrom it_RX4 pp_X4_copyFrom bd_X4_copyFrom rfl rfl ⟨Nat.le_refl _, Nat.le_refl _⟩ (by simp [pC]) hc ?_
      refine x_aloadn hP 38 0 dX5_stop_37 rfl rfl mm0 ?_
      refine x_getr hP 41 8 dX5_stop_38 rfl fl_RX5_16 (hG.O_1) (by decide) rfl (hG.R_1_1) ?_
      obtain ⟨v4, hc, h⟩ := h
      refine x_cv hP 44 [] [] dX5_stop_41 rfl (hG.W_8).o (by decide) rfl ml_RX5_104 im_X4_stoppedHarm se_X4_stoppedHarm it_RX4 pp_X4_stoppedHarm bd_X4_stoppedHarm rfl rfl ⟨Nat.le_refl _, Nat.le_refl _⟩ (by simp [pC]) hc ?_
      refine x_istoren hP 45 3 [(0, vR (some 1)), (1, vI a), (2, vR (some 14)), (3, vI v4)] dX5_stop_44 rfl rfl (by decide) rfl rfl ?_
      refine x_iconst hP 46 dX5_stop_45 rfl ?_
      refine x_istore hP 48 [(0, vR (some 1)), (1, vI a), (2, vR (some 14)), (3, vI v4), (4, vI 0)] dX5_stop_46 rfl (by decide) rfl rfl ?_
      refine x_iconst hP 49 dX5_stop_48 rfl ?_
      refine x_istore hP 51 [(0, vR (some 1)), (1, vI a), (2, vR (some 14)), (3, vI v4), (4, vI 0), (5, vI 0)] dX5_stop_49 rfl (by decide) rfl rfl ?_
      exact h
    · replace h := h.2 hbr
      refine x_iconst hP 25 dX5_stop_24 rfl ?_
      exact x_iret hP dX5_stop_25 ⟨Nat.le_refl _, Nat.le_refl _⟩ h
  · replace h := h.2 hbr
    refine x_ldc hP 11 dX5_stop_9 rfl kc_RX5_117 ?_
    exact x_iret hP dX5_stop_11 ⟨Nat.le_refl _, Nat.le_refl _⟩ h
theorem k_X5_stop_51 {d : Nat} {Q : pQ} {P : pP} {g : pG} {σ : pM} (hP : Clo (pCall d) yX5_stop cX5_stop (some .int) 7 0 0 Q P) (x1 : Int) (x3 : Int) (x4 : Int) (x5 : Int) (hG : gAll g) (h : iR x5 ∧ iR (σ 14 1) ∧ ((σ 14 1) ≤ x5 → iR x1 ∧ (¬ x1 = 0 → Q [vI x4] g σ) ∧ (¬ (¬ x1 = 0) → Q [vI x3] g σ)) ∧ (¬ ((σ 14 1) ≤ x5) → ∃ (v1 : Int), Ca d yX3_cellAt [vR (some 14), vI x5] g σ [vI v1] g σ ∧ ∃ (s2 : pM), Ca d yX4_fill [vR (some 8), vI v1] g σ [] g s2 ∧ ∃ (v3 : Int), Ca d yX4_stoppedHarm [vR (some 8)] g s2 [vI v3] g s2 ∧ iR v3 ∧ iR x3 ∧ (x3 ≤ v3 → P 51 [(0, vR (some 1)), (1, vI x1), (2, vR (some 14)), (3, vI x3), (4, vI x4), (5, vI (x5 + 1))] [] g s2 0 0) ∧ (¬ (x3 ≤ v3) → P 51 [(0, vR (some 1)), (1, vI x1), (2, vR (some 14)), (3, vI v3), (4, vI (x5 + 1)), (5, vI (x5 + 1))] [] g s2 0 0))) : P 51 [(0, vR (some 1)), (1, vI x1), (2, vR (some 14)), (3, vI x3), (4, vI x4), (5, vI x5)] [] g σ 0 0 := by
  refine x_iload hP 53 dX5_stop_51 rfl mm5 ?_
  refine x_aloadn hP 54 2 dX5_stop_53 rfl rfl mm2 ?_
  refine x_geti hP 57 dX5_stop_54 rfl fl_RX5_228 hG.P_14.o (by decide) rfl ?_
  obtain ⟨hs1, hs2, h⟩ := h
  refine x_icmp hP 60 103 ((σ 14 1) ≤ x5) dX5_stop_57 rfl rfl hs1 hs2 rfl (fun hbr => ?_) (fun hbr => ?_)
  · replace h := h.1 hbr
    refine x_iloadn hP 104 1 dX5_stop_103 rfl rfl mm1 ?_
    obtain ⟨hs1, h⟩ := h
    refine x_ifc hP 107 111 (¬ x1 = 0) dX5_stop_104 rfl rfl hs1 rfl (fun hbr => ?_) (fun hbr => ?_)
    · replace h := h.1 hbr
      refine x_iload hP 113 dX5_stop_111 rfl mm4 ?_
      exact x_iret hP dX5_stop_113 ⟨Nat.le_refl _, Nat.le_refl _⟩ h
    · replace h := h.2 hbr
      refine x_iloadn hP 108 3 dX5_stop_107 rfl rfl mm3 ?_
      refine x_goto hP 113 dX5_stop_108 rfl ?_
      exact x_iret hP dX5_stop_113 ⟨Nat.le_refl _, Nat.le_refl _⟩ h
  · replace h := h.2 hbr
    refine x_aloadn hP 61 0 dX5_stop_60 rfl rfl mm0 ?_
    refine x_getr hP 64 8 dX5_stop_61 rfl fl_RX5_16 (hG.O_1) (by decide) rfl (hG.R_1_1) ?_
    refine x_aloadn hP 65 2 dX5_stop_64 rfl rfl mm2 ?_
    refine x_iload hP 67 dX5_stop_65 rfl mm5 ?_
    obtain ⟨v1, hc, h⟩ := h
    refine x_cv hP 70 [vI x5] [vR (some 8)] dX5_stop_67 rfl hG.P_14.o (by decide) rfl ml_RX5_207 im_X3_cellAt se_X3_cellAt it_RX3 pp_X3_cellAt bd_X3_cellAt rfl rfl ⟨Nat.le_refl _, Nat.le_refl _⟩ (by simp [pC]) hc ?_
    obtain ⟨s2, hc, h⟩ := h
    refine x_cv hP 73 [vI v1] [] dX5_stop_70 rfl (hG.W_8).o (by decide) rfl ml_RX5_204 im_X4_fill se_X4_fill it_RX4 pp_X4_fill bd_X4_fill rfl rfl ⟨Nat.le_refl _, Nat.le_refl _⟩ (by simp [pC]) hc ?_
    refine x_aloadn hP 74 0 dX5_stop_73 rfl rfl mm0 ?_
    refine x_getr hP 77 8 dX5_stop_74 rfl fl_RX5_16 (hG.O_1) (by decide) rfl (hG.R_1_1) ?_
    obtain ⟨v3, hc, h⟩ := h
    refine x_cv hP 80 [] [] dX5_stop_77 rfl (hG.W_8).o (by decide) rfl ml_RX5_104 im_X4_stoppedHarm se_X4_stoppedHarm it_RX4 pp_X4_stoppedHarm bd_X4_stoppedHarm rfl rfl ⟨Nat.le_refl _, Nat.le_refl _⟩ (by simp [pC]) hc ?_
    refine x_istore hP 82 [(0, vR (some 1)), (1, vI x1), (2, vR (some 14)), (3, vI x3), (4, vI x4), (5, vI x5), (6, vI v3)] dX5_stop_80 rfl (by decide) rfl rfl ?_
    refine x_iload hP 84 dX5_stop_82 rfl mm6 ?_
    refine x_iloadn hP 85 3 dX5_stop_84 rfl rfl mm3 ?_
    obtain ⟨hs1, hs2, h⟩ := h
    refine x_icmp hP 88 97 (x3 ≤ v3) dX5_stop_85 rfl rfl hs1 hs2 rfl (fun hbr => ?_) (fun hbr => ?_)
    · replace h := h.1 hbr
      refine x_iinc hP 100 [(0, vR (some 1)), (1, vI x1), (2, vR (some 14)), (3, vI x3), (4, vI x4), (5, vI (x5 + 1)), (6, vI v3)] dX5_stop_97 rfl mm5 (by decide) rfl rfl ?_
      refine x_goto hP 51 dX5_stop_100 rfl ?_
      exact x_sub hP [0, 1, 2, 3, 4, 5] rfl h
    · replace h := h.2 hbr
      refine x_iload hP 90 dX5_stop_88 rfl mm6 ?_
      refine x_istoren hP 91 3 [(0, vR (some 1)), (1, vI x1), (2, vR (some 14)), (3, vI v3), (4, vI x4), (5, vI x5), (6, vI v3)] dX5_stop_90 rfl rfl (by decide) rfl rfl ?_
      refine x_iload hP 93 dX5_stop_91 rfl mm5 ?_
      refine x_iconst hP 94 dX5_stop_93 rfl ?_
      refine x_iadd hP 95 dX5_stop_94 rfl ?_
      refine x_istore hP 97 [(0, vR (some 1)), (1, vI x1), (2, vR (some 14)), (3, vI v3), (4, vI (x5 + 1)), (5, vI x5), (6, vI v3)] dX5_stop_95 rfl (by decide) rfl rfl ?_
      refine x_iinc hP 100 [(0, vR (some 1)), (1, vI x1), (2, vR (some 14)), (3, vI v3), (4, vI (x5 + 1)), (5, vI (x5 + 1)), (6, vI v3)] dX5_stop_97 rfl mm5 (by decide) rfl rfl ?_
      refine x_goto hP 51 dX5_stop_100 rfl ?_
      exact x_sub hP [0, 1, 2, 3, 4, 5] rfl h
theorem k_X5_write_0 {d : Nat} {Q : pQ} {P : pP} {g : pG} {σ : pM} (hP : Clo (pCall d) yX5_write cX5_write (some .int) 3 0 0 Q P) (a : Int) (b : Int) (hG : gAll g) (h : ∃ (v1 : Int), Ca d yX4_isEdge [vR (some 2), vI a] g σ [vI v1] g σ ∧ iR v1 ∧ (¬ v1 = 0 → ∃ (v2 : Int), Ca d yX0_hasRoom [vR (some 148)] g σ [vI v2] g σ ∧ iR v2 ∧ (¬ v2 = 0 → ∃ (s3 : pM), Ca d yX0_enter [vR (some 148), vI a, vI b] g σ [] g s3 ∧ Q [vI (s3 148 0)] g s3) ∧ (¬ (¬ v2 = 0) → Q [vI ((-1000000004))] g σ)) ∧ (¬ (¬ v1 = 0) → Q [vI ((-1000000001))] g σ)) : P 0 [(0, vR (some 1)), (1, vI a), (2, vI b)] [] g σ 0 0 := by
  refine x_aloadn hP 1 0 dX5_write_0 rfl rfl mm0 ?_
  refine x_getr hP 4 2 dX5_write_1 rfl fl_RX5_10 (hG.O_1) (by decide) rfl (hG.R_1_0) ?_
  refine x_iloadn hP 5 1 dX5_write_4 rfl rfl mm1 ?_
  obtain ⟨v1, hc, h⟩ := h
  refine x_cv hP 8 [vI a] [] dX5_write_5 rfl (hG.W_2).o (by decide) rfl ml_RX5_140 im_X4_isEdge se_X4_isEdge it_RX4 pp_X4_isEdge bd_X4_isEdge rfl rfl ⟨Nat.le_refl _, Nat.le_refl _⟩ (by simp [pC]) hc ?_
  obtain ⟨hs1, h⟩ := h
  refine x_ifc hP 11 14 (¬ v1 = 0) dX5_write_8 rfl rfl hs1 rfl (fun hbr => ?_) (fun hbr => ?_)
  · replace h := h.1 hbr
    refine x_aloadn hP 15 0 dX5_write_14 rfl rfl mm0 ?_
    refine x_getr hP 18 148 dX5_write_15 rfl fl_RX5_39 (hG.O_1) (by decide) rfl (hG.R_1_5) ?_
    obtain ⟨v2, hc, h⟩ := h
    refine x_cv hP 21 [] [] dX5_write_18 rfl (hG.O_148) (by decide) rfl ml_RX5_229 im_X0_hasRoom se_X0_hasRoom it_RX0 pp_X0_hasRoom bd_X0_hasRoom rfl rfl ⟨Nat.le_refl _, Nat.le_refl _⟩ (by simp [pC]) hc ?_
    obtain ⟨hs1, h⟩ := h
    refine x_ifc hP 24 27 (¬ v2 = 0) dX5_write_21 rfl rfl hs1 rfl (fun hbr => ?_) (fun hbr => ?_)
    · replace h := h.1 hbr
      refine x_aloadn hP 28 0 dX5_write_27 rfl rfl mm0 ?_
      refine x_getr hP 31 148 dX5_write_28 rfl fl_RX5_39 (hG.O_1) (by decide) rfl (hG.R_1_5) ?_
      refine x_iloadn hP 32 1 dX5_write_31 rfl rfl mm1 ?_
      refine x_iloadn hP 33 2 dX5_write_32 rfl rfl mm2 ?_
      obtain ⟨s3, hc, h⟩ := h
      refine x_cv hP 36 [vI a, vI b] [] dX5_write_33 rfl (hG.O_148) (by decide) rfl ml_RX5_232 im_X0_enter se_X0_enter it_RX0 pp_X0_enter bd_X0_enter rfl rfl ⟨Nat.le_refl _, Nat.le_refl _⟩ (by simp [pC]) hc ?_
      refine x_aloadn hP 37 0 dX5_write_36 rfl rfl mm0 ?_
      refine x_getr hP 40 148 dX5_write_37 rfl fl_RX5_39 (hG.O_1) (by decide) rfl (hG.R_1_5) ?_
      refine x_geti hP 43 dX5_write_40 rfl fl_RX5_107 (hG.O_148) (by decide) rfl ?_
      exact x_iret hP dX5_write_43 ⟨Nat.le_refl _, Nat.le_refl _⟩ h
    · replace h := h.2 hbr
      refine x_ldc hP 26 dX5_write_24 rfl kc_RX5_182 ?_
      exact x_iret hP dX5_write_26 ⟨Nat.le_refl _, Nat.le_refl _⟩ h
  · replace h := h.2 hbr
    refine x_ldc hP 13 dX5_write_11 rfl kc_RX5_122 ?_
    exact x_iret hP dX5_write_13 ⟨Nat.le_refl _, Nat.le_refl _⟩ h
theorem k_X5_tear_0 {d : Nat} {Q : pQ} {P : pP} {g : pG} {σ : pM} (hP : Clo (pCall d) yX5_tear cX5_tear (some .int) 2 0 0 Q P) (hG : gAll g) (h : Q [vI (σ 148 0)] g (up2 σ 148 0 0)) : P 0 [(0, vR (some 1))] [] g σ 0 0 := by
  refine x_aloadn hP 1 0 dX5_tear_0 rfl rfl mm0 ?_
  refine x_getr hP 4 148 dX5_tear_1 rfl fl_RX5_39 (hG.O_1) (by decide) rfl (hG.R_1_5) ?_
  refine x_geti hP 7 dX5_tear_4 rfl fl_RX5_107 (hG.O_148) (by decide) rfl ?_
  refine x_istoren hP 8 1 [(0, vR (some 1)), (1, vI (σ 148 0))] dX5_tear_7 rfl rfl (by decide) rfl rfl ?_
  refine x_aloadn hP 9 0 dX5_tear_8 rfl rfl mm0 ?_
  refine x_getr hP 12 148 dX5_tear_9 rfl fl_RX5_39 (hG.O_1) (by decide) rfl (hG.R_1_5) ?_
  refine x_iconst hP 13 dX5_tear_12 rfl ?_
  refine x_putf hP 16 dX5_tear_13 rfl fl_RX5_107 (hG.O_148) (by decide) rfl rfl (fun hz => absurd hz (by decide)) ?_
  refine x_iloadn hP 17 1 dX5_tear_16 rfl rfl mm1 ?_
  exact x_iret hP dX5_tear_17 ⟨Nat.le_refl _, Nat.le_refl _⟩ h
theorem k_X5_seed_0 {d : Nat} {Q : pQ} {P : pP} {g : pG} {σ : pM} (hP : Clo (pCall d) yX5_seed cX5_seed (some .int) 3 0 0 Q P) (a : Int) (hG : gAll g) (h : iR a ∧ (0 ≤ a → Q [vI (σ 1 7)] g (up2 σ 1 7 a)) ∧ (¬ (0 ≤ a) → Q [vI ((-1000000002))] g σ)) : P 0 [(0, vR (some 1)), (1, vI a)] [] g σ 0 0 := by
  refine x_iloadn hP 1 1 dX5_seed_0 rfl rfl mm1 ?_
  obtain ⟨hs1, h⟩ := h
  refine x_ifc hP 4 7 (0 ≤ a) dX5_seed_1 rfl rfl hs1 rfl (fun hbr => ?_) (fun hbr => ?_)
  · replace h := h.1 hbr
    refine x_aloadn hP 8 0 dX5_seed_7 rfl rfl mm0 ?_
    refine x_geti hP 11 dX5_seed_8 rfl fl_RX5_236 (hG.O_1) (by decide) rfl ?_
    refine x_istoren hP 12 2 [(0, vR (some 1)), (1, vI a), (2, vI (σ 1 7))] dX5_seed_11 rfl rfl (by decide) rfl rfl ?_
    refine x_aloadn hP 13 0 dX5_seed_12 rfl rfl mm0 ?_
    refine x_iloadn hP 14 1 dX5_seed_13 rfl rfl mm1 ?_
    refine x_putf hP 17 dX5_seed_14 rfl fl_RX5_236 (hG.O_1) (by decide) rfl rfl (fun hz => absurd hz (by decide)) ?_
    refine x_iloadn hP 18 2 dX5_seed_17 rfl rfl mm2 ?_
    exact x_iret hP dX5_seed_18 ⟨Nat.le_refl _, Nat.le_refl _⟩ h
  · replace h := h.2 hbr
    refine x_ldc hP 6 dX5_seed_4 rfl kc_RX5_117 ?_
    exact x_iret hP dX5_seed_6 ⟨Nat.le_refl _, Nat.le_refl _⟩ h
theorem k_X5_keep_0 {d : Nat} {Q : pQ} {P : pP} {g : pG} {σ : pM} (hP : Clo (pCall d) yX5_keep cX5_keep (some .int) 3 0 0 Q P) (a : Int) (hG : gAll g) (h : ∃ (r1 : Option Nat), Ca d yX5_imageAt [vR (some 1), vI a] g σ [vR r1] g σ ∧ (r1 ≠ none → ∃ im : Nat, r1 = some im ∧ gIm g im ∧ ∃ (s2 : pM), Ca d yX4_copyFrom [vR (some (im + 1)), vR (some 2)] g (up2 (up2 σ im 0 1) im 1 ((up2 σ im 0 1) 1 7)) [] g s2 ∧ ∃ (s3 : pM), Ca d yX1_forget [vR (some 26)] g s2 [] g s3 ∧ Q [vI 1] g s3) ∧ (r1 = none → Q [vI ((-1000000001))] g σ)) : P 0 [(0, vR (some 1)), (1, vI a)] [] g σ 0 0 := by
  refine x_aloadn hP 1 0 dX5_keep_0 rfl rfl mm0 ?_
  refine x_iloadn hP 2 1 dX5_keep_1 rfl rfl mm1 ?_
  obtain ⟨r1, hc, h⟩ := h
  refine x_cv hP 5 [vI a] [] dX5_keep_2 rfl (hG.O_1) (by decide) rfl ml_RX5_239 im_X5_imageAt se_X5_imageAt it_RX5 pp_X5_imageAt bd_X5_imageAt rfl rfl ⟨Nat.le_refl _, Nat.le_refl _⟩ (by simp [pC]) hc ?_
  refine x_astoren hP 6 2 [(0, vR (some 1)), (1, vI a), (2, vR r1)] dX5_keep_5 rfl rfl (by decide) rfl rfl ?_
  refine x_aloadn hP 7 2 dX5_keep_6 rfl rfl mm2 ?_
  refine x_ifnn hP 10 13 dX5_keep_7 rfl rfl (fun hbr => ?_) (fun hbr => ?_)
  · obtain ⟨im, rfl, hi, h⟩ := h.1 hbr
    refine x_aloadn hP 14 2 dX5_keep_13 rfl rfl mm2 ?_
    refine x_iconst hP 15 dX5_keep_14 rfl ?_
    refine x_putf hP 18 dX5_keep_15 rfl fl_RX5_243 hi.o (by decide) rfl rfl (fun _ => by decide) ?_
    refine x_aloadn hP 19 2 dX5_keep_18 rfl rfl mm2 ?_
    refine x_aloadn hP 20 0 dX5_keep_19 rfl rfl mm0 ?_
    refine x_geti hP 23 dX5_keep_20 rfl fl_RX5_236 (hG.O_1) (by decide) rfl ?_
    refine x_putf hP 26 dX5_keep_23 rfl fl_RX5_246 hi.o (by decide) rfl rfl (fun hz => absurd hz (by decide)) ?_
    refine x_aloadn hP 27 2 dX5_keep_26 rfl rfl mm2 ?_
    refine x_getr hP 30 (im + 1) dX5_keep_27 rfl fl_RX5_249 hi.o (by decide) rfl hi.r ?_
    refine x_aloadn hP 31 0 dX5_keep_30 rfl rfl mm0 ?_
    refine x_getr hP 34 2 dX5_keep_31 rfl fl_RX5_10 (hG.O_1) (by decide) rfl (hG.R_1_0) ?_
    obtain ⟨s2, hc, h⟩ := h
    refine x_cv hP 37 [vR (some 2)] [] dX5_keep_34 rfl hi.w.o (by decide) rfl ml_RX5_224 im_X4_copyFrom se_X4_copyFrom it_RX4 pp_X4_copyFrom bd_X4_copyFrom rfl rfl ⟨Nat.le_refl _, Nat.le_refl _⟩ (by simp [pC]) hc ?_
    refine x_aloadn hP 38 0 dX5_keep_37 rfl rfl mm0 ?_
    refine x_getr hP 41 26 dX5_keep_38 rfl fl_RX5_32 (hG.O_1) (by decide) rfl (hG.R_1_4) ?_
    obtain ⟨s3, hc, h⟩ := h
    refine x_cv hP 44 [] [] dX5_keep_41 rfl (hG.O_26) (by decide) rfl ml_RX5_252 im_X1_forget se_X1_forget it_RX1 pp_X1_forget bd_X1_forget rfl rfl ⟨Nat.le_refl _, Nat.le_refl _⟩ (by simp [pC]) hc ?_
    refine x_iconst hP 45 dX5_keep_44 rfl ?_
    exact x_iret hP dX5_keep_45 ⟨Nat.le_refl _, Nat.le_refl _⟩ h
  · replace h := h.2 hbr
    refine x_ldc hP 12 dX5_keep_10 rfl kc_RX5_122 ?_
    exact x_iret hP dX5_keep_12 ⟨Nat.le_refl _, Nat.le_refl _⟩ h
theorem k_X5_goBack_0 {d : Nat} {Q : pQ} {P : pP} {g : pG} {σ : pM} (hP : Clo (pCall d) yX5_goBack cX5_goBack (some .int) 3 0 0 Q P) (a : Int) (hG : gAll g) (h : ∃ (r1 : Option Nat), Ca d yX5_imageAt [vR (some 1), vI a] g σ [vR r1] g σ ∧ (r1 ≠ none → ∃ im : Nat, r1 = some im ∧ gIm g im ∧ iR (σ im 0) ∧ (¬ (σ im 0) = 0 → ∃ (s2 : pM), Ca d yX4_copyFrom [vR (some 2), vR (some (im + 1))] g (up2 σ 1 7 (σ im 1)) [] g s2 ∧ ∃ (s3 : pM), Ca d yX1_forget [vR (some 26)] g s2 [] g s3 ∧ Q [vI 1] g (up2 s3 1 8 0)) ∧ (¬ (¬ (σ im 0) = 0) → Q [vI ((-1000000003))] g σ)) ∧ (r1 = none → Q [vI ((-1000000001))] g σ)) : P 0 [(0, vR (some 1)), (1, vI a)] [] g σ 0 0 := by
  refine x_aloadn hP 1 0 dX5_goBack_0 rfl rfl mm0 ?_
  refine x_iloadn hP 2 1 dX5_goBack_1 rfl rfl mm1 ?_
  obtain ⟨r1, hc, h⟩ := h
  refine x_cv hP 5 [vI a] [] dX5_goBack_2 rfl (hG.O_1) (by decide) rfl ml_RX5_239 im_X5_imageAt se_X5_imageAt it_RX5 pp_X5_imageAt bd_X5_imageAt rfl rfl ⟨Nat.le_refl _, Nat.le_refl _⟩ (by simp [pC]) hc ?_
  refine x_astoren hP 6 2 [(0, vR (some 1)), (1, vI a), (2, vR r1)] dX5_goBack_5 rfl rfl (by decide) rfl rfl ?_
  refine x_aloadn hP 7 2 dX5_goBack_6 rfl rfl mm2 ?_
  refine x_ifnn hP 10 13 dX5_goBack_7 rfl rfl (fun hbr => ?_) (fun hbr => ?_)
  · obtain ⟨im, rfl, hi, h⟩ := h.1 hbr
    refine x_aloadn hP 14 2 dX5_goBack_13 rfl rfl mm2 ?_
    refine x_geti hP 17 dX5_goBack_14 rfl fl_RX5_243 hi.o (by decide) rfl ?_
    obtain ⟨hs1, h⟩ := h
    refine x_ifc hP 20 23 (¬ (σ im 0) = 0) dX5_goBack_17 rfl rfl hs1 rfl (fun hbr => ?_) (fun hbr => ?_)
    · replace h := h.1 hbr
      refine x_aloadn hP 24 0 dX5_goBack_23 rfl rfl mm0 ?_
      refine x_aloadn hP 25 2 dX5_goBack_24 rfl rfl mm2 ?_
      refine x_geti hP 28 dX5_goBack_25 rfl fl_RX5_246 hi.o (by decide) rfl ?_
      refine x_putf hP 31 dX5_goBack_28 rfl fl_RX5_236 (hG.O_1) (by decide) rfl rfl (fun hz => absurd hz (by decide)) ?_
      refine x_aloadn hP 32 0 dX5_goBack_31 rfl rfl mm0 ?_
      refine x_getr hP 35 2 dX5_goBack_32 rfl fl_RX5_10 (hG.O_1) (by decide) rfl (hG.R_1_0) ?_
      refine x_aloadn hP 36 2 dX5_goBack_35 rfl rfl mm2 ?_
      refine x_getr hP 39 (im + 1) dX5_goBack_36 rfl fl_RX5_249 hi.o (by decide) rfl hi.r ?_
      obtain ⟨s2, hc, h⟩ := h
      refine x_cv hP 42 [vR (some (im + 1))] [] dX5_goBack_39 rfl (hG.W_2).o (by decide) rfl ml_RX5_224 im_X4_copyFrom se_X4_copyFrom it_RX4 pp_X4_copyFrom bd_X4_copyFrom rfl rfl ⟨Nat.le_refl _, Nat.le_refl _⟩ (by simp [pC]) hc ?_
      refine x_aloadn hP 43 0 dX5_goBack_42 rfl rfl mm0 ?_
      refine x_getr hP 46 26 dX5_goBack_43 rfl fl_RX5_32 (hG.O_1) (by decide) rfl (hG.R_1_4) ?_
      obtain ⟨s3, hc, h⟩ := h
      refine x_cv hP 49 [] [] dX5_goBack_46 rfl (hG.O_26) (by decide) rfl ml_RX5_252 im_X1_forget se_X1_forget it_RX1 pp_X1_forget bd_X1_forget rfl rfl ⟨Nat.le_refl _, Nat.le_refl _⟩ (by simp [pC]) hc ?_
      refine x_aloadn hP 50 0 dX5_goBack_49 rfl rfl mm0 ?_
      refine x_iconst hP 51 dX5_goBack_50 rfl ?_
      refine x_putf hP 54 dX5_goBack_51 rfl fl_RX5_217 (hG.O_1) (by decide) rfl rfl (fun _ => by decide) ?_
      refine x_iconst hP 55 dX5_goBack_54 rfl ?_
      exact x_iret hP dX5_goBack_55 ⟨Nat.le_refl _, Nat.le_refl _⟩ h
    · replace h := h.2 hbr
      refine x_ldc hP 22 dX5_goBack_20 rfl kc_RX5_190 ?_
      exact x_iret hP dX5_goBack_22 ⟨Nat.le_refl _, Nat.le_refl _⟩ h
  · replace h := h.2 hbr
    refine x_ldc hP 12 dX5_goBack_10 rfl kc_RX5_122 ?_
    exact x_iret hP dX5_goBack_12 ⟨Nat.le_refl _, Nat.le_refl _⟩ h
theorem k_X5_within_0 {d : Nat} {Q : pQ} {P : pP} {g : pG} {σ : pM} (hP : Clo (pCall d) yX5_within cX5_within (some .boolean) 3 0 0 Q P) (a : Int) (b : Int) (c : Int) (h : iR a ∧ iR b ∧ (a < b → Q [vI 0] g σ) ∧ (¬ (a < b) → iR a ∧ iR c ∧ (c < a → Q [vI 0] g σ) ∧ (¬ (c < a) → Q [vI 1] g σ))) : P 0 [(0, vI a), (1, vI b), (2, vI c)] [] g σ 0 0 := by
  refine x_iloadn hP 1 0 dX5_within_0 rfl rfl mm0 ?_
  refine x_iloadn hP 2 1 dX5_within_1 rfl rfl mm1 ?_
  obtain ⟨hs1, hs2, h⟩ := h
  refine x_icmp hP 5 14 (a < b) dX5_within_2 rfl rfl hs1 hs2 rfl (fun hbr => ?_) (fun hbr => ?_)
  · replace h := h.1 hbr
    refine x_iconst hP 15 dX5_within_14 rfl ?_
    exact x_zret hP dX5_within_15 ⟨Nat.le_refl _, Nat.le_refl _⟩ (by decide) h
  · replace h := h.2 hbr
    refine x_iloadn hP 6 0 dX5_within_5 rfl rfl mm0 ?_
    refine x_iloadn hP 7 2 dX5_within_6 rfl rfl mm2 ?_
    obtain ⟨hs1, hs2, h⟩ := h
    refine x_icmp hP 10 14 (c < a) dX5_within_7 rfl rfl hs1 hs2 rfl (fun hbr => ?_) (fun hbr => ?_)
    · replace h := h.1 hbr
      refine x_iconst hP 15 dX5_within_14 rfl ?_
      exact x_zret hP dX5_within_15 ⟨Nat.le_refl _, Nat.le_refl _⟩ (by decide) h
    · replace h := h.2 hbr
      refine x_iconst hP 11 dX5_within_10 rfl ?_
      refine x_goto hP 15 dX5_within_11 rfl ?_
      exact x_zret hP dX5_within_15 ⟨Nat.le_refl _, Nat.le_refl _⟩ (by decide) h
theorem k_X5_beforeDeed_0 {d : Nat} {Q : pQ} {P : pP} {g : pG} {σ : pM} (hP : Clo (pCall d) yX5_beforeDeed cX5_beforeDeed none 1 0 0 Q P) (hG : gAll g) (h : ∃ (s1 : pM), Ca d yX1_remember [vR (some 26), vR (some 2)] g σ [] g s1 ∧ Q [] g (up2 s1 1 8 0)) : P 0 [(0, vR (some 1))] [] g σ 0 0 := by
  refine x_aloadn hP 1 0 dX5_beforeDeed_0 rfl rfl mm0 ?_
  refine x_getr hP 4 26 dX5_beforeDeed_1 rfl fl_RX5_32 (hG.O_1) (by decide) rfl (hG.R_1_4) ?_
  refine x_aloadn hP 5 0 dX5_beforeDeed_4 rfl rfl mm0 ?_
  refine x_getr hP 8 2 dX5_beforeDeed_5 rfl fl_RX5_10 (hG.O_1) (by decide) rfl (hG.R_1_0) ?_
  obtain ⟨s1, hc, h⟩ := h
  refine x_cv hP 11 [vR (some 2)] [] dX5_beforeDeed_8 rfl (hG.O_26) (by decide) rfl ml_RX5_255 im_X1_remember se_X1_remember it_RX1 pp_X1_remember bd_X1_remember rfl rfl ⟨Nat.le_refl _, Nat.le_refl _⟩ (by simp [pC]) hc ?_
  refine x_aloadn hP 12 0 dX5_beforeDeed_11 rfl rfl mm0 ?_
  refine x_iconst hP 13 dX5_beforeDeed_12 rfl ?_
  refine x_putf hP 16 dX5_beforeDeed_13 rfl fl_RX5_217 (hG.O_1) (by decide) rfl rfl (fun _ => by decide) ?_
  exact x_vret hP dX5_beforeDeed_16 ⟨Nat.le_refl _, Nat.le_refl _⟩ h
theorem k_X5_plan_0 {d : Nat} {Q : pQ} {P : pP} {g : pG} {σ : pM} (hP : Clo (pCall d) yX5_plan cX5_plan (some (.object "PourPlan$Planner")) 1 0 0 Q P) (hG : gAll g) (h : iR (σ 1 8) ∧ (¬ (σ 1 8) = 0 → Q [vR (some 14)] g σ) ∧ (¬ (¬ (σ 1 8) = 0) → ∃ (s1 : pM), Ca d yX3_search [vR (some 14), vR (some 2), vI 1000000000, vI 0] g σ [] g s1 ∧ Q [vR (some 14)] g (up2 s1 1 8 1))) : P 0 [(0, vR (some 1))] [] g σ 0 0 := by
  refine x_aloadn hP 1 0 dX5_plan_0 rfl rfl mm0 ?_
  refine x_geti hP 4 dX5_plan_1 rfl fl_RX5_217 (hG.O_1) (by decide) rfl ?_
  obtain ⟨hs1, h⟩ := h
  refine x_ifc hP 7 27 (¬ (σ 1 8) = 0) dX5_plan_4 rfl rfl hs1 rfl (fun hbr => ?_) (fun hbr => ?_)
  · replace h := h.1 hbr
    refine x_aloadn hP 28 0 dX5_plan_27 rfl rfl mm0 ?_
    refine x_getr hP 31 14 dX5_plan_28 rfl fl_RX5_22 (hG.O_1) (by decide) rfl (hG.R_1_2) ?_
    exact x_aret hP dX5_plan_31 ⟨Nat.le_refl _, Nat.le_refl _⟩ h
  · replace h := h.2 hbr
    refine x_aloadn hP 8 0 dX5_plan_7 rfl rfl mm0 ?_
    refine x_getr hP 11 14 dX5_plan_8 rfl fl_RX5_22 (hG.O_1) (by decide) rfl (hG.R_1_2) ?_
    refine x_aloadn hP 12 0 dX5_plan_11 rfl rfl mm0 ?_
    refine x_getr hP 15 2 dX5_plan_12 rfl fl_RX5_10 (hG.O_1) (by decide) rfl (hG.R_1_0) ?_
    refine x_ldcw hP 18 dX5_plan_15 rfl kc_RX5_258 ?_
    refine x_iconst hP 19 dX5_plan_18 rfl ?_
    obtain ⟨s1, hc, h⟩ := h
    refine x_cv hP 22 [vR (some 2), vI 1000000000, vI 0] [] dX5_plan_19 rfl (hG.P_14).o (by decide) rfl ml_RX5_259 im_X3_search se_X3_search it_RX3 pp_X3_search bd_X3_search rfl rfl ⟨Nat.le_refl _, Nat.le_refl _⟩ (by simp [pC]) hc ?_
    refine x_aloadn hP 23 0 dX5_plan_22 rfl rfl mm0 ?_
    refine x_iconst hP 24 dX5_plan_23 rfl ?_
    refine x_putf hP 27 dX5_plan_24 rfl fl_RX5_217 (hG.O_1) (by decide) rfl rfl (fun _ => by decide) ?_
    refine x_aloadn hP 28 0 dX5_plan_27 rfl rfl mm0 ?_
    refine x_getr hP 31 14 dX5_plan_28 rfl fl_RX5_22 (hG.O_1) (by decide) rfl (hG.R_1_2) ?_
    exact x_aret hP dX5_plan_31 ⟨Nat.le_refl _, Nat.le_refl _⟩ h
theorem k_X5_harmBehind_0 {d : Nat} {Q : pQ} {P : pP} {g : pG} {σ : pM} (hP : Clo (pCall d) yX5_harmBehind cX5_harmBehind (some .int) 2 0 0 Q P) (a : Int) (hG : gAll g) (h : ∃ (v1 : Int), Ca d yX4_startOf [vR (some 2), vI a] g σ [vI v1] g σ ∧ iR v1 ∧ (¬ v1 = ((-1)) → ∃ (s2 : pM), Ca d yX4_copyFrom [vR (some 8), vR (some 2)] g σ [] g s2 ∧ ∃ (s3 : pM), Ca d yX4_fill [vR (some 8), vI a] g s2 [] g s3 ∧ ∃ (v4 : Int), Ca d yX4_harm [vR (some 8)] g s3 [vI v4] g s3 ∧ Q [vI v4] g s3) ∧ (¬ (¬ v1 = ((-1))) → Q [vI ((-1))] g σ)) : P 0 [(0, vR (some 1)), (1, vI a)] [] g σ 0 0 := by
  refine x_aloadn hP 1 0 dX5_harmBehind_0 rfl rfl mm0 ?_
  refine x_getr hP 4 2 dX5_harmBehind_1 rfl fl_RX5_10 (hG.O_1) (by decide) rfl (hG.R_1_0) ?_
  refine x_iloadn hP 5 1 dX5_harmBehind_4 rfl rfl mm1 ?_
  obtain ⟨v1, hc, h⟩ := h
  refine x_cv hP 8 [vI a] [] dX5_harmBehind_5 rfl (hG.W_2).o (by decide) rfl ml_RX5_133 im_X4_startOf se_X4_startOf it_RX4 pp_X4_startOf bd_X4_startOf rfl rfl ⟨Nat.le_refl _, Nat.le_refl _⟩ (by simp [pC]) hc ?_
  refine x_iconst hP 9 dX5_harmBehind_8 rfl ?_
  obtain ⟨hs1, h⟩ := h
  refine x_icmp hP 12 14 (¬ v1 = ((-1))) dX5_harmBehind_9 rfl rfl hs1 (by decide) rfl (fun hbr => ?_) (fun hbr => ?_)
  · replace h := h.1 hbr
    refine x_aloadn hP 15 0 dX5_harmBehind_14 rfl rfl mm0 ?_
    refine x_getr hP 18 8 dX5_harmBehind_15 rfl fl_RX5_16 (hG.O_1) (by decide) rfl (hG.R_1_1) ?_
    refine x_aloadn hP 19 0 dX5_harmBehind_18 rfl rfl mm0 ?_
    refine x_getr hP 22 2 dX5_harmBehind_19 rfl fl_RX5_10 (hG.O_1) (by decide) rfl (hG.R_1_0) ?_
    obtain ⟨s2, hc, h⟩ := h
    refine x_cv hP 25 [vR (some 2)] [] dX5_harmBehind_22 rfl (hG.W_8).o (by decide) rfl ml_RX5_224 im_X4_copyFrom se_X4_copyFrom it_RX4 pp_X4_copyFrom bd_X4_copyFrom rfl rfl ⟨Nat.le_refl _, Nat.le_refl _⟩ (by simp [pC]) hc ?_
    refine x_aloadn hP 26 0 dX5_harmBehind_25 rfl rfl mm0 ?_
    refine x_getr hP 29 8 dX5_harmBehind_26 rfl fl_RX5_16 (hG.O_1) (by decide) rfl (hG.R_1_1) ?_
    refine x_iloadn hP 30 1 dX5_harmBehind_29 rfl rfl mm1 ?_
    obtain ⟨s3, hc, h⟩ := h
    refine x_cv hP 33 [vI a] [] dX5_harmBehind_30 rfl (hG.W_8).o (by decide) rfl ml_RX5_204 im_X4_fill se_X4_fill it_RX4 pp_X4_fill bd_X4_fill rfl rfl ⟨Nat.le_refl _, Nat.le_refl _⟩ (by simp [pC]) hc ?_
    refine x_aloadn hP 34 0 dX5_harmBehind_33 rfl rfl mm0 ?_
    refine x_getr hP 37 8 dX5_harmBehind_34 rfl fl_RX5_16 (hG.O_1) (by decide) rfl (hG.R_1_1) ?_
    obtain ⟨v4, hc, h⟩ := h
    refine x_cv hP 40 [] [] dX5_harmBehind_37 rfl (hG.W_8).o (by decide) rfl ml_RX5_85 im_X4_harm se_X4_harm it_RX4 pp_X4_harm bd_X4_harm rfl rfl ⟨Nat.le_refl _, Nat.le_refl _⟩ (by simp [pC]) hc ?_
    exact x_iret hP dX5_harmBehind_40 ⟨Nat.le_refl _, Nat.le_refl _⟩ h
  · replace h := h.2 hbr
    refine x_iconst hP 13 dX5_harmBehind_12 rfl ?_
    exact x_iret hP dX5_harmBehind_13 ⟨Nat.le_refl _, Nat.le_refl _⟩ h
theorem k_X5_stockIfLate_0 {d : Nat} {Q : pQ} {P : pP} {g : pG} {σ : pM} (hP : Clo (pCall d) yX5_stockIfLate cX5_stockIfLate (some .int) 3 0 0 Q P) (a : Int) (b : Int) (hG : gAll g) (h : ∃ (s1 : pM), Ca d yX4_copyFrom [vR (some 8), vR (some 2)] g σ [] g s1 ∧ ∃ (s2 : pM), Ca d yX4_delay [vR (some 8), vI a, vI b] g s1 [] g s2 ∧ ∃ (v3 : Int), Ca d yX4_stock [vR (some 8)] g s2 [vI v3] g s2 ∧ Q [vI v3] g s2) : P 0 [(0, vR (some 1)), (1, vI a), (2, vI b)] [] g σ 0 0 := by
  refine x_aloadn hP 1 0 dX5_stockIfLate_0 rfl rfl mm0 ?_
  refine x_getr hP 4 8 dX5_stockIfLate_1 rfl fl_RX5_16 (hG.O_1) (by decide) rfl (hG.R_1_1) ?_
  refine x_aloadn hP 5 0 dX5_stockIfLate_4 rfl rfl mm0 ?_
  refine x_getr hP 8 2 dX5_stockIfLate_5 rfl fl_RX5_10 (hG.O_1) (by decide) rfl (hG.R_1_0) ?_
  obtain ⟨s1, hc, h⟩ := h
  refine x_cv hP 11 [vR (some 2)] [] dX5_stockIfLate_8 rfl (hG.W_8).o (by decide) rfl ml_RX5_224 im_X4_copyFrom se_X4_copyFrom it_RX4 pp_X4_copyFrom bd_X4_copyFrom rfl rfl ⟨Nat.le_refl _, Nat.le_refl _⟩ (by simp [pC]) hc ?_
  refine x_aloadn hP 12 0 dX5_stockIfLate_11 rfl rfl mm0 ?_
  refine x_getr hP 15 8 dX5_stockIfLate_12 rfl fl_RX5_16 (hG.O_1) (by decide) rfl (hG.R_1_1) ?_
  refine x_iloadn hP 16 1 dX5_stockIfLate_15 rfl rfl mm1 ?_
  refine x_iloadn hP 17 2 dX5_stockIfLate_16 rfl rfl mm2 ?_
  obtain ⟨s2, hc, h⟩ := h
  refine x_cv hP 20 [vI a, vI b] [] dX5_stockIfLate_17 rfl (hG.W_8).o (by decide) rfl ml_RX5_263 im_X4_delay se_X4_delay it_RX4 pp_X4_delay bd_X4_delay rfl rfl ⟨Nat.le_refl _, Nat.le_refl _⟩ (by simp [pC]) hc ?_
  refine x_aloadn hP 21 0 dX5_stockIfLate_20 rfl rfl mm0 ?_
  refine x_getr hP 24 8 dX5_stockIfLate_21 rfl fl_RX5_16 (hG.O_1) (by decide) rfl (hG.R_1_1) ?_
  obtain ⟨v3, hc, h⟩ := h
  refine x_cv hP 27 [] [] dX5_stockIfLate_24 rfl (hG.W_8).o (by decide) rfl ml_RX5_63 im_X4_stock se_X4_stock it_RX4 pp_X4_stock bd_X4_stock rfl rfl ⟨Nat.le_refl _, Nat.le_refl _⟩ (by simp [pC]) hc ?_
  exact x_iret hP dX5_stockIfLate_27 ⟨Nat.le_refl _, Nat.le_refl _⟩ h
theorem k_X5_stockWithout_0 {d : Nat} {Q : pQ} {P : pP} {g : pG} {σ : pM} (hP : Clo (pCall d) yX5_stockWithout cX5_stockWithout (some .int) 2 0 0 Q P) (a : Int) (hG : gAll g) (h : ∃ (s1 : pM), Ca d yX4_copyFrom [vR (some 8), vR (some 2)] g σ [] g s1 ∧ ∃ (s2 : pM), Ca d yX4_dropTruck [vR (some 8), vI a] g s1 [] g s2 ∧ ∃ (v3 : Int), Ca d yX4_stock [vR (some 8)] g s2 [vI v3] g s2 ∧ Q [vI v3] g s2) : P 0 [(0, vR (some 1)), (1, vI a)] [] g σ 0 0 := by
  refine x_aloadn hP 1 0 dX5_stockWithout_0 rfl rfl mm0 ?_
  refine x_getr hP 4 8 dX5_stockWithout_1 rfl fl_RX5_16 (hG.O_1) (by decide) rfl (hG.R_1_1) ?_
  refine x_aloadn hP 5 0 dX5_stockWithout_4 rfl rfl mm0 ?_
  refine x_getr hP 8 2 dX5_stockWithout_5 rfl fl_RX5_10 (hG.O_1) (by decide) rfl (hG.R_1_0) ?_
  obtain ⟨s1, hc, h⟩ := h
  refine x_cv hP 11 [vR (some 2)] [] dX5_stockWithout_8 rfl (hG.W_8).o (by decide) rfl ml_RX5_224 im_X4_copyFrom se_X4_copyFrom it_RX4 pp_X4_copyFrom bd_X4_copyFrom rfl rfl ⟨Nat.le_refl _, Nat.le_refl _⟩ (by simp [pC]) hc ?_
  refine x_aloadn hP 12 0 dX5_stockWithout_11 rfl rfl mm0 ?_
  refine x_getr hP 15 8 dX5_stockWithout_12 rfl fl_RX5_16 (hG.O_1) (by decide) rfl (hG.R_1_1) ?_
  refine x_iloadn hP 16 1 dX5_stockWithout_15 rfl rfl mm1 ?_
  obtain ⟨s2, hc, h⟩ := h
  refine x_cv hP 19 [vI a] [] dX5_stockWithout_16 rfl (hG.W_8).o (by decide) rfl ml_RX5_194 im_X4_dropTruck se_X4_dropTruck it_RX4 pp_X4_dropTruck bd_X4_dropTruck rfl rfl ⟨Nat.le_refl _, Nat.le_refl _⟩ (by simp [pC]) hc ?_
  refine x_aloadn hP 20 0 dX5_stockWithout_19 rfl rfl mm0 ?_
  refine x_getr hP 23 8 dX5_stockWithout_20 rfl fl_RX5_16 (hG.O_1) (by decide) rfl (hG.R_1_1) ?_
  obtain ⟨v3, hc, h⟩ := h
  refine x_cv hP 26 [] [] dX5_stockWithout_23 rfl (hG.W_8).o (by decide) rfl ml_RX5_63 im_X4_stock se_X4_stock it_RX4 pp_X4_stock bd_X4_stock rfl rfl ⟨Nat.le_refl _, Nat.le_refl _⟩ (by simp [pC]) hc ?_
  exact x_iret hP dX5_stockWithout_26 ⟨Nat.le_refl _, Nat.le_refl _⟩ h
theorem k_X5_mayWait_0 {d : Nat} {Q : pQ} {P : pP} {g : pG} {σ : pM} (hP : Clo (pCall d) yX5_mayWait cX5_mayWait (some .int) 3 0 0 Q P) (hG : gAll g) (h : ∃ (s1 : pM), Ca d yX5_plan [vR (some 1)] g σ [vR (some 14)] g s1 ∧ iR (s1 14 0) ∧ (¬ (s1 14 0) = 0 → P 17 [(0, vR (some 1)), (1, vR (some 14)), (2, vI 12)] [] g s1 0 0) ∧ (¬ (¬ (s1 14 0) = 0) → Q [vI ((-1))] g s1)) : P 0 [(0, vR (some 1))] [] g σ 0 0 := by
  refine x_aloadn hP 1 0 dX5_mayWait_0 rfl rfl mm0 ?_
  obtain ⟨s1, hc, h⟩ := h
  refine x_cv hP 4 [] [] dX5_mayWait_1 rfl (hG.O_1) (by decide) rfl ml_RX5_91 im_X5_plan se_X5_plan it_RX5 pp_X5_plan bd_X5_plan rfl rfl ⟨Nat.le_refl _, Nat.le_refl _⟩ (by simp [pC]) hc ?_
  refine x_astoren hP 5 1 [(0, vR (some 1)), (1, vR (some 14))] dX5_mayWait_4 rfl rfl (by decide) rfl rfl ?_
  refine x_aloadn hP 6 1 dX5_mayWait_5 rfl rfl mm1 ?_
  refine x_geti hP 9 dX5_mayWait_6 rfl fl_RX5_221 hG.P_14.o (by decide) rfl ?_
  obtain ⟨hs1, h⟩ := h
  refine x_ifc hP 12 14 (¬ (s1 14 0) = 0) dX5_mayWait_9 rfl rfl hs1 rfl (fun hbr => ?_) (fun hbr => ?_)
  · replace h := h.1 hbr
    refine x_bipush hP 16 dX5_mayWait_14 rfl (by decide) ?_
    refine x_istoren hP 17 2 [(0, vR (some 1)), (1, vR (some 14)), (2, vI 12)] dX5_mayWait_16 rfl rfl (by decide) rfl rfl ?_
    exact h
  · replace h := h.2 hbr
    refine x_iconst hP 13 dX5_mayWait_12 rfl ?_
    exact x_iret hP dX5_mayWait_13 ⟨Nat.le_refl _, Nat.le_refl _⟩ h
theorem k_X5_mayWait_17 {d : Nat} {Q : pQ} {P : pP} {g : pG} {σ : pM} (hP : Clo (pCall d) yX5_mayWait cX5_mayWait (some .int) 3 0 0 Q P) (x2 : Int) (hG : gAll g) (h : iR x2 ∧ (x2 ≤ 0 → Q [vI 0] g σ) ∧ (¬ (x2 ≤ 0) → ∃ (s1 : pM), Ca d yX4_copyFrom [vR (some 8), vR (some 2)] g σ [] g s1 ∧ ∃ (v2 : Int) (s3 : pM), Ca d yX3_leastHarmIs [vR (some 20), vR (some 8), vI ((up2 s1 8 3 ((s1 8 3) + x2)) 14 2)] g (up2 s1 8 3 ((s1 8 3) + x2)) [vI v2] g s3 ∧ iR v2 ∧ (v2 = 0 → P 17 [(0, vR (some 1)), (1, vR (some 14)), (2, vI (x2 + (-1)))] [] g s3 0 0) ∧ (¬ (v2 = 0) → Q [vI x2] g s3))) : P 17 [(0, vR (some 1)), (1, vR (some 14)), (2, vI x2)] [] g σ 0 0 := by
  refine x_iloadn hP 18 2 dX5_mayWait_17 rfl rfl mm2 ?_
  obtain ⟨hs1, h⟩ := h
  refine x_ifc hP 21 71 (x2 ≤ 0) dX5_mayWait_18 rfl rfl hs1 rfl (fun hbr => ?_) (fun hbr => ?_)
  · replace h := h.1 hbr
    refine x_iconst hP 72 dX5_mayWait_71 rfl ?_
    exact x_iret hP dX5_mayWait_72 ⟨Nat.le_refl _, Nat.le_refl _⟩ h
  · replace h := h.2 hbr
    refine x_aloadn hP 22 0 dX5_mayWait_21 rfl rfl mm0 ?_
    refine x_getr hP 25 8 dX5_mayWait_22 rfl fl_RX5_16 (hG.O_1) (by decide) rfl (hG.R_1_1) ?_
    refine x_aloadn hP 26 0 dX5_mayWait_25 rfl rfl mm0 ?_
    refine x_getr hP 29 2 dX5_mayWait_26 rfl fl_RX5_10 (hG.O_1) (by decide) rfl (hG.R_1_0) ?_
    obtain ⟨s1, hc, h⟩ := h
    refine x_cv hP 32 [vR (some 2)] [] dX5_mayWait_29 rfl (hG.W_8).o (by decide) rfl ml_RX5_224 im_X4_copyFrom se_X4_copyFrom it_RX4 pp_X4_copyFrom bd_X4_copyFrom rfl rfl ⟨Nat.le_refl _, Nat.le_refl _⟩ (by simp [pC]) hc ?_
    refine x_aloadn hP 33 0 dX5_mayWait_32 rfl rfl mm0 ?_
    refine x_getr hP 36 8 dX5_mayWait_33 rfl fl_RX5_16 (hG.O_1) (by decide) rfl (hG.R_1_1) ?_
    refine x_dup hP 37 dX5_mayWait_36 rfl rfl ?_
    refine x_geti hP 40 dX5_mayWait_37 rfl fl_RX5_57 (hG.W_8).o (by decide) rfl ?_
    refine x_iloadn hP 41 2 dX5_mayWait_40 rfl rfl mm2 ?_
    refine x_iadd hP 42 dX5_mayWait_41 rfl ?_
    refine x_putf hP 45 dX5_mayWait_42 rfl fl_RX5_57 (hG.W_8).o (by decide) rfl rfl (fun hz => absurd hz (by decide)) ?_
    refine x_aloadn hP 46 0 dX5_mayWait_45 rfl rfl mm0 ?_
    refine x_getr hP 49 20 dX5_mayWait_46 rfl fl_RX5_26 (hG.O_1) (by decide) rfl (hG.R_1_3) ?_
    refine x_aloadn hP 50 0 dX5_mayWait_49 rfl rfl mm0 ?_
    refine x_getr hP 53 8 dX5_mayWait_50 rfl fl_RX5_16 (hG.O_1) (by decide) rfl (hG.R_1_1) ?_
    refine x_aloadn hP 54 1 dX5_mayWait_53 rfl rfl mm1 ?_
    refine x_geti hP 57 dX5_mayWait_54 rfl fl_RX5_266 hG.P_14.o (by decide) rfl ?_
    obtain ⟨v2, s3, hc, h⟩ := h
    refine x_cv hP 60 [vR (some 8), vI ((up2 s1 8 3 ((s1 8 3) + x2)) 14 2)] [] dX5_mayWait_57 rfl (hG.P_20).o (by decide) rfl ml_RX5_269 im_X3_leastHarmIs se_X3_leastHarmIs it_RX3 pp_X3_leastHarmIs bd_X3_leastHarmIs rfl rfl ⟨Nat.le_refl _, Nat.le_refl _⟩ (by simp [pC]) hc ?_
    obtain ⟨hs1, h⟩ := h
    refine x_ifc hP 63 65 (v2 = 0) dX5_mayWait_60 rfl rfl hs1 rfl (fun hbr => ?_) (fun hbr => ?_)
    · replace h := h.1 hbr
      refine x_iinc hP 68 [(0, vR (some 1)), (1, vR (some 14)), (2, vI (x2 + (-1)))] dX5_mayWait_65 rfl mm2 (by decide) rfl rfl ?_
      refine x_goto hP 17 dX5_mayWait_68 rfl ?_
      exact h
    · replace h := h.2 hbr
      refine x_iloadn hP 64 2 dX5_mayWait_63 rfl rfl mm2 ?_
      exact x_iret hP dX5_mayWait_64 ⟨Nat.le_refl _, Nat.le_refl _⟩ h
theorem k_X5_mayBeLate_0 {d : Nat} {Q : pQ} {P : pP} {g : pG} {σ : pM} (hP : Clo (pCall d) yX5_mayBeLate cX5_mayBeLate (some .int) 5 0 0 Q P) (a : Int) (hG : gAll g) (h : ∃ (s1 : pM), Ca d yX5_plan [vR (some 1)] g σ [vR (some 14)] g s1 ∧ iR (s1 14 0) ∧ (¬ (s1 14 0) = 0 → (0 ≤ a ∧ a < 9) ∧ ∃ (v2 : Int), Ca d yJ9_min_7cf53 [vI 12, vI (99 - (s1 6 (Int.toNat a)))] g s1 [vI v2] g s1 ∧ P 35 [(0, vR (some 1)), (1, vI a), (2, vR (some 14)), (4, vI v2)] [] g s1 0 0) ∧ (¬ (¬ (s1 14 0) = 0) → Q [vI ((-1))] g s1)) : P 0 [(0, vR (some 1)), (1, vI a)] [] g σ 0 0 := by
  refine x_aloadn hP 1 0 dX5_mayBeLate_0 rfl rfl mm0 ?_
  obtain ⟨s1, hc, h⟩ := h
  refine x_cv hP 4 [] [] dX5_mayBeLate_1 rfl (hG.O_1) (by decide) rfl ml_RX5_91 im_X5_plan se_X5_plan it_RX5 pp_X5_plan bd_X5_plan rfl rfl ⟨Nat.le_refl _, Nat.le_refl _⟩ (by simp [pC]) hc ?_
  refine x_astoren hP 5 2 [(0, vR (some 1)), (1, vI a), (2, vR (some 14))] dX5_mayBeLate_4 rfl rfl (by decide) rfl rfl ?_
  refine x_aloadn hP 6 2 dX5_mayBeLate_5 rfl rfl mm2 ?_
  refine x_geti hP 9 dX5_mayBeLate_6 rfl fl_RX5_221 hG.P_14.o (by decide) rfl ?_
  obtain ⟨hs1, h⟩ := h
  refine x_ifc hP 12 14 (¬ (s1 14 0) = 0) dX5_mayBeLate_9 rfl rfl hs1 rfl (fun hbr => ?_) (fun hbr => ?_)
  · replace h := h.1 hbr
    refine x_bipush hP 16 dX5_mayBeLate_14 rfl (by decide) ?_
    refine x_bipush hP 18 dX5_mayBeLate_16 rfl (by decide) ?_
    refine x_aloadn hP 19 0 dX5_mayBeLate_18 rfl rfl mm0 ?_
    refine x_getr hP 22 2 dX5_mayBeLate_19 rfl fl_RX5_10 (hG.O_1) (by decide) rfl (hG.R_1_0) ?_
    refine x_getr hP 25 6 dX5_mayBeLate_22 rfl fl_RX5_155 (hG.W_2).o (by decide) rfl (hG.W_2).r4 ?_
    refine x_iloadn hP 26 1 dX5_mayBeLate_25 rfl rfl mm1 ?_
    obtain ⟨hs, h⟩ := h
    refine x_iald hP 27 dX5_mayBeLate_26 rfl (hG.W_2).a4 (by decide) hs ?_
    refine x_isub hP 28 dX5_mayBeLate_27 rfl ?_
    obtain ⟨v2, hc, h⟩ := h
    refine x_cs hP 31 [vI 12, vI (99 - (s1 6 (Int.toNat a)))] [] dX5_mayBeLate_28 rfl ml_RX5_273 sm_J9_min_7cf53 it_RJ9 pp_J9_min_7cf53 bd_J9_min_7cf53 rfl rfl ⟨Nat.le_refl _, Nat.le_refl _⟩ (by simp [pC]) hc ?_
    refine x_istoren hP 32 3 [(0, vR (some 1)), (1, vI a), (2, vR (some 14)), (3, vI v2)] dX5_mayBeLate_31 rfl rfl (by decide) rfl rfl ?_
    refine x_iloadn hP 33 3 dX5_mayBeLate_32 rfl rfl mm3 ?_
    refine x_istore hP 35 [(0, vR (some 1)), (1, vI a), (2, vR (some 14)), (3, vI v2), (4, vI v2)] dX5_mayBeLate_33 rfl (by decide) rfl rfl ?_
    exact x_sub hP [0, 1, 2, 4] rfl h
  · replace h := h.2 hbr
    refine x_iconst hP 13 dX5_mayBeLate_12 rfl ?_
    exact x_iret hP dX5_mayBeLate_13 ⟨Nat.le_refl _, Nat.le_refl _⟩ h
theorem k_X5_mayBeLate_35 {d : Nat} {Q : pQ} {P : pP} {g : pG} {σ : pM} (hP : Clo (pCall d) yX5_mayBeLate cX5_mayBeLate (some .int) 5 0 0 Q P) (x1 : Int) (x4 : Int) (hG : gAll g) (h : iR x4 ∧ (x4 ≤ 0 → Q [vI 0] g σ) ∧ (¬ (x4 ≤ 0) → ∃ (s1 : pM), Ca d yX4_copyFrom [vR (some 8), vR (some 2)] g σ [] g s1 ∧ ∃ (s2 : pM), Ca d yX4_delay [vR (some 8), vI x1, vI x4] g s1 [] g s2 ∧ ∃ (v3 : Int), Ca d yX4_stock [vR (some 8)] g s2 [vI v3] g s2 ∧ iR v3 ∧ (v3 < 0 → P 35 [(0, vR (some 1)), (1, vI x1), (2, vR (some 14)), (4, vI (x4 + (-1)))] [] g s2 0 0) ∧ (¬ (v3 < 0) → ∃ (v4 : Int) (s5 : pM), Ca d yX3_leastHarmIs [vR (some 20), vR (some 8), vI (s2 14 2)] g s2 [vI v4] g s5 ∧ iR v4 ∧ (v4 = 0 → P 35 [(0, vR (some 1)), (1, vI x1), (2, vR (some 14)), (4, vI (x4 + (-1)))] [] g s5 0 0) ∧ (¬ (v4 = 0) → Q [vI x4] g s5)))) : P 35 [(0, vR (some 1)), (1, vI x1), (2, vR (some 14)), (4, vI x4)] [] g σ 0 0 := by
  refine x_iload hP 37 dX5_mayBeLate_35 rfl mm3 ?_
  obtain ⟨hs1, h⟩ := h
  refine x_ifc hP 40 98 (x4 ≤ 0) dX5_mayBeLate_37 rfl rfl hs1 rfl (fun hbr => ?_) (fun hbr => ?_)
  · replace h := h.1 hbr
    refine x_iconst hP 99 dX5_mayBeLate_98 rfl ?_
    exact x_iret hP dX5_mayBeLate_99 ⟨Nat.le_refl _, Nat.le_refl _⟩ h
  · replace h := h.2 hbr
    refine x_aloadn hP 41 0 dX5_mayBeLate_40 rfl rfl mm0 ?_
    refine x_getr hP 44 8 dX5_mayBeLate_41 rfl fl_RX5_16 (hG.O_1) (by decide) rfl (hG.R_1_1) ?_
    refine x_aloadn hP 45 0 dX5_mayBeLate_44 rfl rfl mm0 ?_
    refine x_getr hP 48 2 dX5_mayBeLate_45 rfl fl_RX5_10 (hG.O_1) (by decide) rfl (hG.R_1_0) ?_
    obtain ⟨s1, hc, h⟩ := h
    refine x_cv hP 51 [vR (some 2)] [] dX5_mayBeLate_48 rfl (hG.W_8).o (by decide) rfl ml_RX5_224 im_X4_copyFrom se_X4_copyFrom it_RX4 pp_X4_copyFrom bd_X4_copyFrom rfl rfl ⟨Nat.le_refl _, Nat.le_refl _⟩ (by simp [pC]) hc ?_
    refine x_aloadn hP 52 0 dX5_mayBeLate_51 rfl rfl mm0 ?_
    refine x_getr hP 55 8 dX5_mayBeLate_52 rfl fl_RX5_16 (hG.O_1) (by decide) rfl (hG.R_1_1) ?_
    refine x_iloadn hP 56 1 dX5_mayBeLate_55 rfl rfl mm1 ?_
    refine x_iload hP 58 dX5_mayBeLate_56 rfl mm3 ?_
    obtain ⟨s2, hc, h⟩ := h
    refine x_cv hP 61 [vI x1, vI x4] [] dX5_mayBeLate_58 rfl (hG.W_8).o (by decide) rfl ml_RX5_263 im_X4_delay se_X4_delay it_RX4 pp_X4_delay bd_X4_delay rfl rfl ⟨Nat.le_refl _, Nat.le_refl _⟩ (by simp [pC]) hc ?_
    refine x_aloadn hP 62 0 dX5_mayBeLate_61 rfl rfl mm0 ?_
    refine x_getr hP 65 8 dX5_mayBeLate_62 rfl fl_RX5_16 (hG.O_1) (by decide) rfl (hG.R_1_1) ?_
    obtain ⟨v3, hc, h⟩ := h
    refine x_cv hP 68 [] [] dX5_mayBeLate_65 rfl (hG.W_8).o (by decide) rfl ml_RX5_63 im_X4_stock se_X4_stock it_RX4 pp_X4_stock bd_X4_stock rfl rfl ⟨Nat.le_refl _, Nat.le_refl _⟩ (by simp [pC]) hc ?_
    obtain ⟨hs1, h⟩ := h
    refine x_ifc hP 71 92 (v3 < 0) dX5_mayBeLate_68 rfl rfl hs1 rfl (fun hbr => ?_) (fun hbr => ?_)
    · replace h := h.1 hbr
      refine x_iinc hP 95 [(0, vR (some 1)), (1, vI x1), (2, vR (some 14)), (4, vI (x4 + (-1)))] dX5_mayBeLate_92 rfl mm3 (by decide) rfl rfl ?_
      refine x_goto hP 35 dX5_mayBeLate_95 rfl ?_
      exact h
    · replace h := h.2 hbr
      refine x_aloadn hP 72 0 dX5_mayBeLate_71 rfl rfl mm0 ?_
      refine x_getr hP 75 20 dX5_mayBeLate_72 rfl fl_RX5_26 (hG.O_1) (by decide) rfl (hG.R_1_3) ?_
      refine x_aloadn hP 76 0 dX5_mayBeLate_75 rfl rfl mm0 ?_
      refine x_getr hP 79 8 dX5_mayBeLate_76 rfl fl_RX5_16 (hG.O_1) (by decide) rfl (hG.R_1_1) ?_
      refine x_aloadn hP 80 2 dX5_mayBeLate_79 rfl rfl mm2 ?_
      refine x_geti hP 83 dX5_mayBeLate_80 rfl fl_RX5_266 hG.P_14.o (by decide) rfl ?_
      obtain ⟨v4, s5, hc, h⟩ := h
      refine x_cv hP 86 [vR (some 8), vI (s2 14 2)] [] dX5_mayBeLate_83 rfl (hG.P_20).o (by decide) rfl ml_RX5_269 im_X3_leastHarmIs se_X3_leastHarmIs it_RX3 pp_X3_leastHarmIs bd_X3_leastHarmIs rfl rfl ⟨Nat.le_refl _, Nat.le_refl _⟩ (by simp [pC]) hc ?_
      obtain ⟨hs1, h⟩ := h
      refine x_ifc hP 89 92 (v4 = 0) dX5_mayBeLate_86 rfl rfl hs1 rfl (fun hbr => ?_) (fun hbr => ?_)
      · replace h := h.1 hbr
        refine x_iinc hP 95 [(0, vR (some 1)), (1, vI x1), (2, vR (some 14)), (4, vI (x4 + (-1)))] dX5_mayBeLate_92 rfl mm3 (by decide) rfl rfl ?_
        refine x_goto hP 35 dX5_mayBeLate_95 rfl ?_
        exact h
      · replace h := h.2 hbr
        refine x_iload hP 91 dX5_mayBeLate_89 rfl mm3 ?_
        exact x_iret hP dX5_mayBeLate_91 ⟨Nat.le_refl _, Nat.le_refl _⟩ h
theorem k_X5_imageAt_0 {d : Nat} {Q : pQ} {P : pP} {g : pG} {σ : pM} (hP : Clo (pCall d) yX5_imageAt cX5_imageAt (some (.object "PourPlan$Image")) 2 0 0 Q P) (a : Int) (hG : gAll g) (h : iR a ∧ (a < 0 → Q [vR none] g σ) ∧ (¬ (a < 0) → iR a ∧ (2 ≤ a → Q [vR none] g σ) ∧ (¬ (2 ≤ a) → (0 ≤ a ∧ a < 2) ∧ Q [vR (g.2.2 151 (Int.toNat a))] g σ))) : P 0 [(0, vR (some 1)), (1, vI a)] [] g σ 0 0 := by
  refine x_iloadn hP 1 1 dX5_imageAt_0 rfl rfl mm1 ?_
  obtain ⟨hs1, h⟩ := h
  refine x_ifc hP 4 22 (a < 0) dX5_imageAt_1 rfl rfl hs1 rfl (fun hbr => ?_) (fun hbr => ?_)
  · replace h := h.1 hbr
    refine x_null hP 23 dX5_imageAt_22 rfl ?_
    exact x_aret hP dX5_imageAt_23 ⟨Nat.le_refl _, Nat.le_refl _⟩ h
  · replace h := h.2 hbr
    refine x_iloadn hP 5 1 dX5_imageAt_4 rfl rfl mm1 ?_
    refine x_aloadn hP 6 0 dX5_imageAt_5 rfl rfl mm0 ?_
    refine x_getr hP 9 151 dX5_imageAt_6 rfl fl_RX5_45 (hG.O_1) (by decide) rfl (hG.R_1_6) ?_
    refine x_alen hP 10 dX5_imageAt_9 rfl (hG.A_151) (by simp [pArr]) ?_
    obtain ⟨hs1, h⟩ := h
    refine x_icmp hP 13 22 (2 ≤ a) dX5_imageAt_10 rfl rfl hs1 (by decide) rfl (fun hbr => ?_) (fun hbr => ?_)
    · replace h := h.1 hbr
      refine x_null hP 23 dX5_imageAt_22 rfl ?_
      exact x_aret hP dX5_imageAt_23 ⟨Nat.le_refl _, Nat.le_refl _⟩ h
    · replace h := h.2 hbr
      refine x_aloadn hP 14 0 dX5_imageAt_13 rfl rfl mm0 ?_
      refine x_getr hP 17 151 dX5_imageAt_14 rfl fl_RX5_45 (hG.O_1) (by decide) rfl (hG.R_1_6) ?_
      refine x_iloadn hP 18 1 dX5_imageAt_17 rfl rfl mm1 ?_
      obtain ⟨hs, h⟩ := h
      refine x_aald hP 19 dX5_imageAt_18 rfl (hG.A_151) (by decide) (by decide) hs ?_
      refine x_goto hP 23 dX5_imageAt_19 rfl ?_
      exact x_aret hP dX5_imageAt_23 ⟨Nat.le_refl _, Nat.le_refl _⟩ h
theorem k_X5_draw_0 {d : Nat} {Q : pQ} {P : pP} {g : pG} {σ : pM} (hP : Clo (pCall d) yX5_draw cX5_draw (some .int) 2 0 0 Q P) (a : Int) (hG : gAll g) (h : iR (σ 1 7) ∧ (0 ≤ (((σ 1 7) * 1103515245) + 12345) ∧ 0 ≤ (2147483647 : Int)) ∧ 0 ≤ (((Int.toNat (((σ 1 7) * 1103515245) + 12345) &&& Int.toNat 2147483647 : Nat) : Int)) ∧ iR a ∧ (1 ≤ a → iR ((up2 σ 1 7 (((Int.toNat (((σ 1 7) * 1103515245) + 12345) &&& Int.toNat 2147483647 : Nat) : Int))) 1 7) ∧ (iR (Int.tdiv ((up2 σ 1 7 (((Int.toNat (((σ 1 7) * 1103515245) + 12345) &&& Int.toNat 2147483647 : Nat) : Int))) 1 7) 65536) ∧ iR a ∧ a ≠ 0) ∧ Q [vI (Int.tmod (Int.tdiv ((up2 σ 1 7 (((Int.toNat (((σ 1 7) * 1103515245) + 12345) &&& Int.toNat 2147483647 : Nat) : Int))) 1 7) 65536) a)] g (up2 σ 1 7 (((Int.toNat (((σ 1 7) * 1103515245) + 12345) &&& Int.toNat 2147483647 : Nat) : Int)))) ∧ (¬ (1 ≤ a) → Q [vI 0] g (up2 σ 1 7 (((Int.toNat (((σ 1 7) * 1103515245) + 12345) &&& Int.toNat 2147483647 : Nat) : Int))))) : P 0 [(0, vR (some 1)), (1, vI a)] [] g σ 0 0 := by
  refine x_aloadn hP 1 0 dX5_draw_0 rfl rfl mm0 ?_
  refine x_aloadn hP 2 0 dX5_draw_1 rfl rfl mm0 ?_
  refine x_geti hP 5 dX5_draw_2 rfl fl_RX5_236 (hG.O_1) (by decide) rfl ?_
  obtain ⟨hs, h⟩ := h
  refine x_i2l hP 6 dX5_draw_5 rfl hs ?_
  refine x_ldc2 hP 9 dX5_draw_6 rfl kl_RX5_278 ?_
  refine x_lmul hP 10 dX5_draw_9 rfl ?_
  refine x_ldc2 hP 13 dX5_draw_10 rfl kl_RX5_280 ?_
  refine x_ladd hP 14 dX5_draw_13 rfl ?_
  refine x_ldc2 hP 17 dX5_draw_14 rfl kl_RX5_282 ?_
  obtain ⟨hs, h⟩ := h
  refine x_land hP 18 dX5_draw_17 rfl hs ?_
  obtain ⟨hs, h⟩ := h
  refine x_l2i hP 19 dX5_draw_18 rfl hs ?_
  refine x_putf hP 22 dX5_draw_19 rfl fl_RX5_236 (hG.O_1) (by decide) rfl rfl (fun hz => absurd hz (by decide)) ?_
  refine x_iloadn hP 23 1 dX5_draw_22 rfl rfl mm1 ?_
  refine x_iconst hP 24 dX5_draw_23 rfl ?_
  obtain ⟨hs1, h⟩ := h
  refine x_icmp hP 27 31 (1 ≤ a) dX5_draw_24 rfl rfl hs1 (by decide) rfl (fun hbr => ?_) (fun hbr => ?_)
  · replace h := h.1 hbr
    refine x_aloadn hP 32 0 dX5_draw_31 rfl rfl mm0 ?_
    refine x_geti hP 35 dX5_draw_32 rfl fl_RX5_236 (hG.O_1) (by decide) rfl ?_
    refine x_ldcw hP 38 dX5_draw_35 rfl kc_RX5_284 ?_
    obtain ⟨hs, h⟩ := h
    refine x_idiv hP 39 dX5_draw_38 rfl hs (by decide) (by decide) ?_
    refine x_iloadn hP 40 1 dX5_draw_39 rfl rfl mm1 ?_
    obtain ⟨hs, h⟩ := h
    refine x_irem hP 41 dX5_draw_40 rfl hs.1 hs.2.1 hs.2.2 ?_
    exact x_iret hP dX5_draw_41 ⟨Nat.le_refl _, Nat.le_refl _⟩ h
  · replace h := h.2 hbr
    refine x_iconst hP 28 dX5_draw_27 rfl ?_
    refine x_goto hP 41 dX5_draw_28 rfl ?_
    exact x_iret hP dX5_draw_41 ⟨Nat.le_refl _, Nat.le_refl _⟩ h
theorem k_X5_driftOnce_0 {d : Nat} {Q : pQ} {P : pP} {g : pG} {σ : pM} (hP : Clo (pCall d) yX5_driftOnce cX5_driftOnce none 5 0 0 Q P) (hG : gAll g) (h : ∃ (s1 : pM), Ca d yX5_beforeDeed [vR (some 1)] g σ [] g s1 ∧ ∃ (v2 : Int) (s3 : pM), Ca d yX5_draw [vR (some 1), vI 4] g s1 [vI v2] g s3 ∧ ∃ (v4 : Int) (s5 : pM), Ca d yX5_draw [vR (some 1), vI (s3 2 2)] g s3 [vI v4] g s5 ∧ ∃ (v6 : Int) (s7 : pM), Ca d yX5_draw [vR (some 1), vI 30] g s5 [vI v6] g s7 ∧ ∃ (v8 : Int) (s9 : pM), Ca d yX5_draw [vR (some 1), vI 4] g s7 [vI v8] g s9 ∧ iR v2 ∧ (2 ≤ v2 → iR v2 ∧ (¬ v2 = 2 → ∃ (v10 : Int), Ca d yX4_isCell [vR (some 2), vI v4] g s9 [vI v10] g s9 ∧ iR v10 ∧ (v10 = 0 → Q [] g s9) ∧ (¬ (v10 = 0) → ∃ (v11 : Int), Ca d yX4_isPoured [vR (some 2), vI v4] g s9 [vI v11] g s9 ∧ iR v11 ∧ (¬ v11 = 0 → Q [] g s9) ∧ (¬ (¬ v11 = 0) → ∃ (v12 : Int), Ca d yJ9_max_7cf53 [vI 1, vI v8] g s9 [vI v12] g s9 ∧ (0 ≤ v4 ∧ v4 < 9) ∧ Q [] g (up2 s9 3 (Int.toNat v4) v12)))) ∧ (¬ (¬ v2 = 2) → ∃ (s13 : pM), Ca d yX4_fill [vR (some 2), vI v4] g s9 [] g s13 ∧ Q [] g s13)) ∧ (¬ (2 ≤ v2) → ∃ (v14 : Int), Ca d yX4_hasTruckRoom [vR (some 2)] g s9 [vI v14] g s9 ∧ iR v14 ∧ (v14 = 0 → Q [] g s9) ∧ (¬ (v14 = 0) → iR ((s9 2 3) + v6) ∧ (99 < ((s9 2 3) + v6) → Q [] g s9) ∧ (¬ (99 < ((s9 2 3) + v6)) → ∃ (s15 : pM), Ca d yX4_addTruck [vR (some 2), vI ((s9 2 3) + v6), vI (v8 + 1)] g s9 [] g s15 ∧ Q [] g s15)))) : P 0 [(0, vR (some 1))] [] g σ 0 0 := by
  refine x_aloadn hP 1 0 dX5_driftOnce_0 rfl rfl mm0 ?_
  obtain ⟨s1, hc, h⟩ := h
  refine x_cv hP 4 [] [] dX5_driftOnce_1 rfl (hG.O_1) (by decide) rfl ml_RX5_171 im_X5_beforeDeed se_X5_beforeDeed it_RX5 pp_X5_beforeDeed bd_X5_beforeDeed rfl rfl ⟨Nat.le_refl _, Nat.le_refl _⟩ (by simp [pC]) hc ?_
  refine x_aloadn hP 5 0 dX5_driftOnce_4 rfl rfl mm0 ?_
  refine x_iconst hP 6 dX5_driftOnce_5 rfl ?_
  obtain ⟨v2, s3, hc, h⟩ := h
  refine x_cv hP 9 [vI 4] [] dX5_driftOnce_6 rfl (hG.O_1) (by decide) rfl ml_RX5_285 im_X5_draw se_X5_draw it_RX5 pp_X5_draw bd_X5_draw rfl rfl ⟨Nat.le_refl _, Nat.le_refl _⟩ (by simp [pC]) hc ?_
  refine x_istoren hP 10 1 [(0, vR (some 1)), (1, vI v2)] dX5_driftOnce_9 rfl rfl (by decide) rfl rfl ?_
  refine x_aloadn hP 11 0 dX5_driftOnce_10 rfl rfl mm0 ?_
  refine x_aloadn hP 12 0 dX5_driftOnce_11 rfl rfl mm0 ?_
  refine x_getr hP 15 2 dX5_driftOnce_12 rfl fl_RX5_10 (hG.O_1) (by decide) rfl (hG.R_1_0) ?_
  refine x_geti hP 18 dX5_driftOnce_15 rfl fl_RX5_288 (hG.W_2).o (by decide) rfl ?_
  obtain ⟨v4, s5, hc, h⟩ := h
  refine x_cv hP 21 [vI (s3 2 2)] [] dX5_driftOnce_18 rfl (hG.O_1) (by decide) rfl ml_RX5_285 im_X5_draw se_X5_draw it_RX5 pp_X5_draw bd_X5_draw rfl rfl ⟨Nat.le_refl _, Nat.le_refl _⟩ (by simp [pC]) hc ?_
  refine x_istoren hP 22 2 [(0, vR (some 1)), (1, vI v2), (2, vI v4)] dX5_driftOnce_21 rfl rfl (by decide) rfl rfl ?_
  refine x_aloadn hP 23 0 dX5_driftOnce_22 rfl rfl mm0 ?_
  refine x_bipush hP 25 dX5_driftOnce_23 rfl (by decide) ?_
  obtain ⟨v6, s7, hc, h⟩ := h
  refine x_cv hP 28 [vI 30] [] dX5_driftOnce_25 rfl (hG.O_1) (by decide) rfl ml_RX5_285 im_X5_draw se_X5_draw it_RX5 pp_X5_draw bd_X5_draw rfl rfl ⟨Nat.le_refl _, Nat.le_refl _⟩ (by simp [pC]) hc ?_
  refine x_istoren hP 29 3 [(0, vR (some 1)), (1, vI v2), (2, vI v4), (3, vI v6)] dX5_driftOnce_28 rfl rfl (by decide) rfl rfl ?_
  refine x_aloadn hP 30 0 dX5_driftOnce_29 rfl rfl mm0 ?_
  refine x_iconst hP 31 dX5_driftOnce_30 rfl ?_
  obtain ⟨v8, s9, hc, h⟩ := h
  refine x_cv hP 34 [vI 4] [] dX5_driftOnce_31 rfl (hG.O_1) (by decide) rfl ml_RX5_285 im_X5_draw se_X5_draw it_RX5 pp_X5_draw bd_X5_draw rfl rfl ⟨Nat.le_refl _, Nat.le_refl _⟩ (by simp [pC]) hc ?_
  refine x_istore hP 36 [(0, vR (some 1)), (1, vI v2), (2, vI v4), (3, vI v6), (4, vI v8)] dX5_driftOnce_34 rfl (by decide) rfl rfl ?_
  refine x_iloadn hP 37 1 dX5_driftOnce_36 rfl rfl mm1 ?_
  refine x_iconst hP 38 dX5_driftOnce_37 rfl ?_
  obtain ⟨hs1, h⟩ := h
  refine x_icmp hP 41 88 (2 ≤ v2) dX5_driftOnce_38 rfl rfl hs1 (by decide) rfl (fun hbr => ?_) (fun hbr => ?_)
  · replace h := h.1 hbr
    refine x_iloadn hP 89 1 dX5_driftOnce_88 rfl rfl mm1 ?_
    refine x_iconst hP 90 dX5_driftOnce_89 rfl ?_
    obtain ⟨hs1, h⟩ := h
    refine x_icmp hP 93 104 (¬ v2 = 2) dX5_driftOnce_90 rfl rfl hs1 (by decide) rfl (fun hbr => ?_) (fun hbr => ?_)
    · replace h := h.1 hbr
      refine x_aloadn hP 105 0 dX5_driftOnce_104 rfl rfl mm0 ?_
      refine x_getr hP 108 2 dX5_driftOnce_105 rfl fl_RX5_10 (hG.O_1) (by decide) rfl (hG.R_1_0) ?_
      refine x_iloadn hP 109 2 dX5_driftOnce_108 rfl rfl mm2 ?_
      obtain ⟨v10, hc, h⟩ := h
      refine x_cv hP 112 [vI v4] [] dX5_driftOnce_109 rfl (hG.W_2).o (by decide) rfl ml_RX5_118 im_X4_isCell se_X4_isCell it_RX4 pp_X4_isCell bd_X4_isCell rfl rfl ⟨Nat.le_refl _, Nat.le_refl _⟩ (by simp [pC]) hc ?_
      obtain ⟨hs1, h⟩ := h
      refine x_ifc hP 115 141 (v10 = 0) dX5_driftOnce_112 rfl rfl hs1 rfl (fun hbr => ?_) (fun hbr => ?_)
      · replace h := h.1 hbr
        exact x_vret hP dX5_driftOnce_141 ⟨Nat.le_refl _, Nat.le_refl _⟩ h
      · replace h := h.2 hbr
        refine x_aloadn hP 116 0 dX5_driftOnce_115 rfl rfl mm0 ?_
        refine x_getr hP 119 2 dX5_driftOnce_116 rfl fl_RX5_10 (hG.O_1) (by decide) rfl (hG.R_1_0) ?_
        refine x_iloadn hP 120 2 dX5_driftOnce_119 rfl rfl mm2 ?_
        obtain ⟨v11, hc, h⟩ := h
        refine x_cv hP 123 [vI v4] [] dX5_driftOnce_120 rfl (hG.W_2).o (by decide) rfl ml_RX5_198 im_X4_isPoured se_X4_isPoured it_RX4 pp_X4_isPoured bd_X4_isPoured rfl rfl ⟨Nat.le_refl _, Nat.le_refl _⟩ (by simp [pC]) hc ?_
        obtain ⟨hs1, h⟩ := h
        refine x_ifc hP 126 141 (¬ v11 = 0) dX5_driftOnce_123 rfl rfl hs1 rfl (fun hbr => ?_) (fun hbr => ?_)
        · replace h := h.1 hbr
          exact x_vret hP dX5_driftOnce_141 ⟨Nat.le_refl _, Nat.le_refl _⟩ h
        · replace h := h.2 hbr
          refine x_aloadn hP 127 0 dX5_driftOnce_126 rfl rfl mm0 ?_
          refine x_getr hP 130 2 dX5_driftOnce_127 rfl fl_RX5_10 (hG.O_1) (by decide) rfl (hG.R_1_0) ?_
          refine x_getr hP 133 3 dX5_driftOnce_130 rfl fl_RX5_123 (hG.W_2).o (by decide) rfl (hG.W_2).r1 ?_
          refine x_iloadn hP 134 2 dX5_driftOnce_133 rfl rfl mm2 ?_
          refine x_iconst hP 135 dX5_driftOnce_134 rfl ?_
          refine x_iload hP 137 dX5_driftOnce_135 rfl mm4 ?_
          obtain ⟨v12, hc, h⟩ := h
          refine x_cs hP 140 [vI 1, vI v8] [vI v4, vR (some 3)] dX5_driftOnce_137 rfl ml_RX5_291 sm_J9_max_7cf53 it_RJ9 pp_J9_max_7cf53 bd_J9_max_7cf53 rfl rfl ⟨Nat.le_refl _, Nat.le_refl _⟩ (by simp [pC]) hc ?_
          obtain ⟨hs1, h⟩ := h
          refine x_iast hP 141 dX5_driftOnce_140 rfl (hG.W_2).a1 (by decide) hs1 ?_
          exact x_vret hP dX5_driftOnce_141 ⟨Nat.le_refl _, Nat.le_refl _⟩ h
    · replace h := h.2 hbr
      refine x_aloadn hP 94 0 dX5_driftOnce_93 rfl rfl mm0 ?_
      refine x_getr hP 97 2 dX5_driftOnce_94 rfl fl_RX5_10 (hG.O_1) (by decide) rfl (hG.R_1_0) ?_
      refine x_iloadn hP 98 2 dX5_driftOnce_97 rfl rfl mm2 ?_
      obtain ⟨s13, hc, h⟩ := h
      refine x_cv hP 101 [vI v4] [] dX5_driftOnce_98 rfl (hG.W_2).o (by decide) rfl ml_RX5_204 im_X4_fill se_X4_fill it_RX4 pp_X4_fill bd_X4_fill rfl rfl ⟨Nat.le_refl _, Nat.le_refl _⟩ (by simp [pC]) hc ?_
      refine x_goto hP 141 dX5_driftOnce_101 rfl ?_
      exact x_vret hP dX5_driftOnce_141 ⟨Nat.le_refl _, Nat.le_refl _⟩ h
  · replace h := h.2 hbr
    refine x_aloadn hP 42 0 dX5_driftOnce_41 rfl rfl mm0 ?_
    refine x_getr hP 45 2 dX5_driftOnce_42 rfl fl_RX5_10 (hG.O_1) (by decide) rfl (hG.R_1_0) ?_
    obtain ⟨v14, hc, h⟩ := h
    refine x_cv hP 48 [] [] dX5_driftOnce_45 rfl (hG.W_2).o (by decide) rfl ml_RX5_178 im_X4_hasTruckRoom se_X4_hasTruckRoom it_RX4 pp_X4_hasTruckRoom bd_X4_hasTruckRoom rfl rfl ⟨Nat.le_refl _, Nat.le_refl _⟩ (by simp [pC]) hc ?_
    obtain ⟨hs1, h⟩ := h
    refine x_ifc hP 51 141 (v14 = 0) dX5_driftOnce_48 rfl rfl hs1 rfl (fun hbr => ?_) (fun hbr => ?_)
    · replace h := h.1 hbr
      exact x_vret hP dX5_driftOnce_141 ⟨Nat.le_refl _, Nat.le_refl _⟩ h
    · replace h := h.2 hbr
      refine x_aloadn hP 52 0 dX5_driftOnce_51 rfl rfl mm0 ?_
      refine x_getr hP 55 2 dX5_driftOnce_52 rfl fl_RX5_10 (hG.O_1) (by decide) rfl (hG.R_1_0) ?_
      refine x_geti hP 58 dX5_driftOnce_55 rfl fl_RX5_57 (hG.W_2).o (by decide) rfl ?_
      refine x_iloadn hP 59 3 dX5_driftOnce_58 rfl rfl mm3 ?_
      refine x_iadd hP 60 dX5_driftOnce_59 rfl ?_
      refine x_bipush hP 62 dX5_driftOnce_60 rfl (by decide) ?_
      obtain ⟨hs1, h⟩ := h
      refine x_icmp hP 65 141 (99 < ((s9 2 3) + v6)) dX5_driftOnce_62 rfl rfl hs1 (by decide) rfl (fun hbr => ?_) (fun hbr => ?_)
      · replace h := h.1 hbr
        exact x_vret hP dX5_driftOnce_141 ⟨Nat.le_refl _, Nat.le_refl _⟩ h
      · replace h := h.2 hbr
        refine x_aloadn hP 66 0 dX5_driftOnce_65 rfl rfl mm0 ?_
        refine x_getr hP 69 2 dX5_driftOnce_66 rfl fl_RX5_10 (hG.O_1) (by decide) rfl (hG.R_1_0) ?_
        refine x_aloadn hP 70 0 dX5_driftOnce_69 rfl rfl mm0 ?_
        refine x_getr hP 73 2 dX5_driftOnce_70 rfl fl_RX5_10 (hG.O_1) (by decide) rfl (hG.R_1_0) ?_
        refine x_geti hP 76 dX5_driftOnce_73 rfl fl_RX5_57 (hG.W_2).o (by decide) rfl ?_
        refine x_iloadn hP 77 3 dX5_driftOnce_76 rfl rfl mm3 ?_
        refine x_iadd hP 78 dX5_driftOnce_77 rfl ?_
        refine x_iload hP 80 dX5_driftOnce_78 rfl mm4 ?_
        refine x_iconst hP 81 dX5_driftOnce_80 rfl ?_
        refine x_iadd hP 82 dX5_driftOnce_81 rfl ?_
        obtain ⟨s15, hc, h⟩ := h
        refine x_cv hP 85 [vI ((s9 2 3) + v6), vI (v8 + 1)] [] dX5_driftOnce_82 rfl (hG.W_2).o (by decide) rfl ml_RX5_183 im_X4_addTruck se_X4_addTruck it_RX4 pp_X4_addTruck bd_X4_addTruck rfl rfl ⟨Nat.le_refl _, Nat.le_refl _⟩ (by simp [pC]) hc ?_
        refine x_goto hP 141 dX5_driftOnce_85 rfl ?_
        exact x_vret hP dX5_driftOnce_141 ⟨Nat.le_refl _, Nat.le_refl _⟩ h
theorem k_X5_copyRow_0 {d : Nat} {Q : pQ} {P : pP} {g : pG} {σ : pM} (hP : Clo (pCall d) yX5_copyRow cX5_copyRow none 3 0 0 Q P) (a la : Nat) (b lb : Nat) (ha : gA g a 7 la) (hla : la < 2147483648) (hb : gA g b 7 lb) (hlb : lb < 2147483648) (h : P 2 [(0, vR (some a)), (1, vR (some b)), (2, vI 0)] [] g σ 0 0) : P 0 [(0, vR (some a)), (1, vR (some b))] [] g σ 0 0 := by
  refine x_iconst hP 1 dX5_copyRow_0 rfl ?_
  refine x_istoren hP 2 2 [(0, vR (some a)), (1, vR (some b)), (2, vI 0)] dX5_copyRow_1 rfl rfl (by decide) rfl rfl ?_
  exact h
theorem k_X5_copyRow_2 {d : Nat} {Q : pQ} {P : pP} {g : pG} {σ : pM} (hP : Clo (pCall d) yX5_copyRow cX5_copyRow none 3 0 0 Q P) (a la : Nat) (b lb : Nat) (x2 : Int) (ha : gA g a 7 la) (hla : la < 2147483648) (hb : gA g b 7 lb) (hlb : lb < 2147483648) (h : iR x2 ∧ iR la ∧ (la ≤ x2 → Q [] g σ) ∧ (¬ (la ≤ x2) → iR x2 ∧ iR lb ∧ (lb ≤ x2 → Q [] g σ) ∧ (¬ (lb ≤ x2) → (0 ≤ x2 ∧ x2 < la) ∧ (0 ≤ x2 ∧ x2 < lb) ∧ P 2 [(0, vR (some a)), (1, vR (some b)), (2, vI (x2 + 1))] [] g (up2 σ b (Int.toNat x2) (σ a (Int.toNat x2))) 0 0))) : P 2 [(0, vR (some a)), (1, vR (some b)), (2, vI x2)] [] g σ 0 0 := by
  refine x_iloadn hP 3 2 dX5_copyRow_2 rfl rfl mm2 ?_
  refine x_aloadn hP 4 0 dX5_copyRow_3 rfl rfl mm0 ?_
  refine x_alen hP 5 dX5_copyRow_4 rfl ha (by simp [pArr]) ?_
  obtain ⟨hs1, hs2, h⟩ := h
  refine x_icmp hP 8 26 (la ≤ x2) dX5_copyRow_5 rfl rfl hs1 hs2 rfl (fun hbr => ?_) (fun hbr => ?_)
  · replace h := h.1 hbr
    exact x_vret hP dX5_copyRow_26 ⟨Nat.le_refl _, Nat.le_refl _⟩ h
  · replace h := h.2 hbr
    refine x_iloadn hP 9 2 dX5_copyRow_8 rfl rfl mm2 ?_
    refine x_aloadn hP 10 1 dX5_copyRow_9 rfl rfl mm1 ?_
    refine x_alen hP 11 dX5_copyRow_10 rfl hb (by simp [pArr]) ?_
    obtain ⟨hs1, hs2, h⟩ := h
    refine x_icmp hP 14 26 (lb ≤ x2) dX5_copyRow_11 rfl rfl hs1 hs2 rfl (fun hbr => ?_) (fun hbr => ?_)
    · replace h := h.1 hbr
      exact x_vret hP dX5_copyRow_26 ⟨Nat.le_refl _, Nat.le_refl _⟩ h
    · replace h := h.2 hbr
      refine x_aloadn hP 15 1 dX5_copyRow_14 rfl rfl mm1 ?_
      refine x_iloadn hP 16 2 dX5_copyRow_15 rfl rfl mm2 ?_
      refine x_aloadn hP 17 0 dX5_copyRow_16 rfl rfl mm0 ?_
      refine x_iloadn hP 18 2 dX5_copyRow_17 rfl rfl mm2 ?_
      obtain ⟨hs, h⟩ := h
      refine x_iald hP 19 dX5_copyRow_18 rfl ha hla hs ?_
      obtain ⟨hs1, h⟩ := h
      refine x_iast hP 20 dX5_copyRow_19 rfl hb hlb hs1 ?_
      refine x_iinc hP 23 [(0, vR (some a)), (1, vR (some b)), (2, vI (x2 + 1))] dX5_copyRow_20 rfl mm2 (by decide) rfl rfl ?_
      refine x_goto hP 2 dX5_copyRow_23 rfl ?_
      exact h
theorem k_X5_fillRow_0 {d : Nat} {Q : pQ} {P : pP} {g : pG} {σ : pM} (hP : Clo (pCall d) yX5_fillRow cX5_fillRow none 3 0 0 Q P) (a la : Nat) (b : Int) (ha : gA g a 7 la) (hla : la < 2147483648) (h : P 2 [(0, vR (some a)), (1, vI b), (2, vI 0)] [] g σ 0 0) : P 0 [(0, vR (some a)), (1, vI b)] [] g σ 0 0 := by
  refine x_iconst hP 1 dX5_fillRow_0 rfl ?_
  refine x_istoren hP 2 2 [(0, vR (some a)), (1, vI b), (2, vI 0)] dX5_fillRow_1 rfl rfl (by decide) rfl rfl ?_
  exact h
theorem k_X5_fillRow_2 {d : Nat} {Q : pQ} {P : pP} {g : pG} {σ : pM} (hP : Clo (pCall d) yX5_fillRow cX5_fillRow none 3 0 0 Q P) (a la : Nat) (x1 : Int) (x2 : Int) (ha : gA g a 7 la) (hla : la < 2147483648) (h : iR x2 ∧ iR la ∧ (la ≤ x2 → Q [] g σ) ∧ (¬ (la ≤ x2) → (0 ≤ x2 ∧ x2 < la) ∧ P 2 [(0, vR (some a)), (1, vI x1), (2, vI (x2 + 1))] [] g (up2 σ a (Int.toNat x2) x1) 0 0)) : P 2 [(0, vR (some a)), (1, vI x1), (2, vI x2)] [] g σ 0 0 := by
  refine x_iloadn hP 3 2 dX5_fillRow_2 rfl rfl mm2 ?_
  refine x_aloadn hP 4 0 dX5_fillRow_3 rfl rfl mm0 ?_
  refine x_alen hP 5 dX5_fillRow_4 rfl ha (by simp [pArr]) ?_
  obtain ⟨hs1, hs2, h⟩ := h
  refine x_icmp hP 8 18 (la ≤ x2) dX5_fillRow_5 rfl rfl hs1 hs2 rfl (fun hbr => ?_) (fun hbr => ?_)
  · replace h := h.1 hbr
    exact x_vret hP dX5_fillRow_18 ⟨Nat.le_refl _, Nat.le_refl _⟩ h
  · replace h := h.2 hbr
    refine x_aloadn hP 9 0 dX5_fillRow_8 rfl rfl mm0 ?_
    refine x_iloadn hP 10 2 dX5_fillRow_9 rfl rfl mm2 ?_
    refine x_iloadn hP 11 1 dX5_fillRow_10 rfl rfl mm1 ?_
    obtain ⟨hs1, h⟩ := h
    refine x_iast hP 12 dX5_fillRow_11 rfl ha hla hs1 ?_
    refine x_iinc hP 15 [(0, vR (some a)), (1, vI x1), (2, vI (x2 + 1))] dX5_fillRow_12 rfl mm2 (by decide) rfl rfl ?_
    refine x_goto hP 2 dX5_fillRow_15 rfl ?_
    exact h
