/-! The law: its loop -/
section Lw
variable {P : pP} {g : pG} {L : Nat} {xs : Nat → Int32}
theorem toInt_iR (x : Int32) : iR x.toInt := ⟨Int32.le_toInt x, Int32.toInt_lt x⟩
abbrev lwL (i : Nat) : pL := [(0, vR (some 0)), (1, vR (some 1)), (2, vR (some 166)), (3, vI (i : Int))]
theorem lw_loop (hL3 : L ≤ 1536) (hP : Clo (pCall 60) yL_law cL_law (some .boolean) 4 600000 7302250 (fun r _ _ => r = [vI 1]) P) (hG : gAll g) (hL : gA g 0 11 L) : ∀ (m i t : Nat) (σ : pM) (w : Wl) (H : Hs) (s : Int) (B : Bk) (I : Ig), i = 3 * t → t + m = 513 → aOK (10000 + 60 * t) w H s B I → CI σ w H s B I → MI σ w H s B I → σ 0 = (fun j => (xs j).toInt) → P 18 (lwL i) [] g σ 174 3026 := by
  intro m
  induction m with
  | zero =>
    intro i t σ w H s B I hi ht hok hc hM hS
    refine x_iloadn hP 19 3 dL_law_18 rfl rfl mm3 ?_
    refine x_aloadn hP 20 0 dL_law_19 rfl rfl mm0 ?_
    refine x_alen hP 21 dL_law_20 rfl hL (by simp [pArr]) ?_
    refine x_iconst hP 22 dL_law_21 rfl ?_
    refine x_isub hP 23 dL_law_22 rfl ?_
    refine x_icmp hP 26 734 ((L : Int) - 3 < (i : Int)) dL_law_23 rfl rfl (rO (by omega) (by omega)) (rO (by omega) (by omega)) rfl (fun _ => ?_) (fun z => absurd (by omega) z)
    refine x_iconst hP 735 dL_law_734 rfl ?_
    exact x_zret hP dL_law_735 (by decide) (by decide) rfl
  | succ m ih =>
    intro i t σ w H s B I hi ht hok hc hM hS
    have hxR : ∀ j, iR (σ 0 j) := fun j => by rw [hS]; exact toInt_iR _
    have h10 : (10000 : Int) ≤ 10000 + 60 * (t : Int) := by omega
    have h200 : (200 : Int) ≤ 10000 + 60 * (t : Int) := by omega
    have hT80 : 10000 + 60 * (t : Int) ≤ 80000 := by omega
    refine x_iloadn hP 19 3 dL_law_18 rfl rfl mm3 ?_
    refine x_aloadn hP 20 0 dL_law_19 rfl rfl mm0 ?_
    refine x_alen hP 21 dL_law_20 rfl hL (by simp [pArr]) ?_
    refine x_iconst hP 22 dL_law_21 rfl ?_
    refine x_isub hP 23 dL_law_22 rfl ?_
    refine x_icmp hP 26 734 ((L : Int) - 3 < (i : Int)) dL_law_23 rfl rfl (rO (by omega) (by omega)) (rO (by omega) (by omega)) rfl (fun _ => ?_) (fun hin => ?_)
    · refine x_iconst hP 735 dL_law_734 rfl ?_
      exact x_zret hP dL_law_735 (by decide) (by decide) rfl
    · have nxt : ∀ (σ2 : pM) (w2 : Wl) (H2 : Hs) (s2 : Int) (B2 : Bk) (I2 : Ig), aOK (10000 + 60 * (t : Int) + 60) w2 H2 s2 B2 I2 → CI σ2 w2 H2 s2 B2 I2 → MI σ2 w2 H2 s2 B2 I2 → σ2 0 = (fun j => (xs j).toInt) → P 728 (lwL i) [] g σ2 174 3026 := by
        intro σ2 w2 H2 s2 B2 I2 o1 o2 o3 o4
        have h18 := ih (i + 3) (t + 1) σ2 w2 H2 s2 B2 I2 (by omega) (by omega) (o1.le (by omega)) o2 o3 o4
        refine x_iinc hP 731 [(0, vR (some 0)), (1, vR (some 1)), (2, vR (some 166)), (3, vI ((i : Int) + 3))] dL_law_728 rfl mm3 (by decide) rfl rfl ?_
        refine x_goto hP 18 dL_law_731 rfl ?_
        exact h18
      refine x_aloadn hP 27 0 dL_law_26 rfl rfl mm0 ?_
      refine x_iloadn hP 28 3 dL_law_27 rfl rfl mm3 ?_
      refine x_xald hP 29 dL_law_28 rfl hL (by omega) ⟨by omega, by omega⟩ ?_
      refine x_bipush hP 31 dL_law_29 rfl (by decide) ?_
      refine x_iand31 hP 32 dL_law_31 rfl ?_
      have hv0 := Int.emod_nonneg (σ 0 (Int.toNat (i : Int))) (show (32 : Int) ≠ 0 by decide)
      have hv1 := Int.emod_lt_of_pos (σ 0 (Int.toNat (i : Int))) (show (0 : Int) < 32 by decide)
      generalize σ 0 (Int.toNat (i : Int)) % 32 = v at hv0 hv1
      refine x_tsw hP 728 dL_law_32 (rO (by omega) (by omega)) rfl (fun _ => nxt σ w H s B I (hok.le (by omega)) hc hM hS) (fun hbr => ?_)
      have hall : v = 0 ∨ v = 1 ∨ v = 2 ∨ v = 3 ∨ v = 4 ∨ v = 5 ∨ v = 6 ∨ v = 7 ∨ v = 8 ∨ v = 9 ∨ v = 10 ∨ v = 11 ∨ v = 12 ∨ v = 13 ∨ v = 14 ∨ v = 15 ∨ v = 16 ∨ v = 17 ∨ v = 18 ∨ v = 19 ∨ v = 20 ∨ v = 21 := by omega
      rcases hall with e | e | e | e | e | e | e | e | e | e | e | e | e | e | e | e | e | e | e | e | e | e
      · refine ⟨104, 136, by rw [e]; rfl, rfl, ?_⟩
        obtain ⟨r, σ1, σ2, w2, H2, s2, B2, I2, q1, q2, q3, q4, q5, q6, q7, q8⟩ := pc_told (a := σ 0 (Int.toNat ((i : Int) + 1))) hG h200 hT80 (hxR _) σ w H s B I hok hc hM
        refine x_aloadn hP 137 1 dL_law_136 rfl rfl mm1 ?_
        refine x_aloadn hP 138 0 dL_law_137 rfl rfl mm0 ?_
        refine x_iloadn hP 139 3 dL_law_138 rfl rfl mm3 ?_
        refine x_iconst hP 140 dL_law_139 rfl ?_
        refine x_iadd hP 141 dL_law_140 rfl ?_
        refine x_xald hP 142 dL_law_141 rfl hL (by omega) ⟨by omega, by omega⟩ ?_
        refine x_cv (ci := 5) hP 145 [vI (σ 0 (Int.toNat ((i : Int) + 1)))] [] dL_law_142 rfl hG.O_1 (by decide) rfl ml_RL_13 im_X5_told se_X5_told it_RX5 pp_X5_told bd_X5_told rfl rfl (by decide) (by simp [pC]) q1 ?_
        refine x_aloadn hP 146 2 dL_law_145 rfl rfl mm2 ?_
        refine x_aloadn hP 147 0 dL_law_146 rfl rfl mm0 ?_
        refine x_iloadn hP 148 3 dL_law_147 rfl rfl mm3 ?_
        refine x_iconst hP 149 dL_law_148 rfl ?_
        refine x_iadd hP 150 dL_law_149 rfl ?_
        refine x_xald hP 151 dL_law_150 rfl hL (by omega) ⟨by omega, by omega⟩ ?_
        rw [q7]
        refine x_cv (ci := 6) hP 154 [vI (σ 0 (Int.toNat ((i : Int) + 1)))] [vI r] dL_law_151 rfl hG.O_166 (by decide) rfl ml_RL_17 im_X6_told se_X6_told it_RX6 pp_X6_told bd_X6_told rfl rfl (by decide) (by simp [pC]) q2 ?_
        refine x_icmp hP 157 728 (r = r) dL_law_154 rfl rfl q3 q3 rfl (fun _ => ?_) (fun z => absurd rfl z)
        exact nxt σ2 w2 H2 s2 B2 I2 q4 q5 q6 (by rw [q8]; exact hS)
      · refine ⟨127, 159, by rw [e]; rfl, rfl, ?_⟩
        obtain ⟨r, σ1, σ2, w2, H2, s2, B2, I2, q1, q2, q3, q4, q5, q6, q7, q8⟩ := pc_cell (a := σ 0 (Int.toNat ((i : Int) + 1))) (b := σ 0 (Int.toNat ((i : Int) + 2))) hG h200 hT80 (hxR _) (hxR _) σ w H s B I hok hc hM
        refine x_aloadn hP 160 1 dL_law_159 rfl rfl mm1 ?_
        refine x_aloadn hP 161 0 dL_law_160 rfl rfl mm0 ?_
        refine x_iloadn hP 162 3 dL_law_161 rfl rfl mm3 ?_
        refine x_iconst hP 163 dL_law_162 rfl ?_
        refine x_iadd hP 164 dL_law_163 rfl ?_
        refine x_xald hP 165 dL_law_164 rfl hL (by omega) ⟨by omega, by omega⟩ ?_
        refine x_aloadn hP 166 0 dL_law_165 rfl rfl mm0 ?_
        refine x_iloadn hP 167 3 dL_law_166 rfl rfl mm3 ?_
        refine x_iconst hP 168 dL_law_167 rfl ?_
        refine x_iadd hP 169 dL_law_168 rfl ?_
        refine x_xald hP 170 dL_law_169 rfl hL (by omega) ⟨by omega, by omega⟩ ?_
        refine x_cv (ci := 5) hP 173 [vI (σ 0 (Int.toNat ((i : Int) + 1))), vI (σ 0 (Int.toNat ((i : Int) + 2)))] [] dL_law_170 rfl hG.O_1 (by decide) rfl ml_RL_18 im_X5_cell se_X5_cell it_RX5 pp_X5_cell bd_X5_cell rfl rfl (by decide) (by simp [pC]) q1 ?_
        refine x_aloadn hP 174 2 dL_law_173 rfl rfl mm2 ?_
        refine x_aloadn hP 175 0 dL_law_174 rfl rfl mm0 ?_
        refine x_iloadn hP 176 3 dL_law_175 rfl rfl mm3 ?_
        refine x_iconst hP 177 dL_law_176 rfl ?_
        refine x_iadd hP 178 dL_law_177 rfl ?_
        refine x_xald hP 179 dL_law_178 rfl hL (by omega) ⟨by omega, by omega⟩ ?_
        refine x_aloadn hP 180 0 dL_law_179 rfl rfl mm0 ?_
        refine x_iloadn hP 181 3 dL_law_180 rfl rfl mm3 ?_
        refine x_iconst hP 182 dL_law_181 rfl ?_
        refine x_iadd hP 183 dL_law_182 rfl ?_
        refine x_xald hP 184 dL_law_183 rfl hL (by omega) ⟨by omega, by omega⟩ ?_
        rw [q7]
        refine x_cv (ci := 6) hP 187 [vI (σ 0 (Int.toNat ((i : Int) + 1))), vI (σ 0 (Int.toNat ((i : Int) + 2)))] [vI r] dL_law_184 rfl hG.O_166 (by decide) rfl ml_RL_22 im_X6_cell se_X6_cell it_RX6 pp_X6_cell bd_X6_cell rfl rfl (by decide) (by simp [pC]) q2 ?_
        refine x_icmp hP 190 728 (r = r) dL_law_187 rfl rfl q3 q3 rfl (fun _ => ?_) (fun z => absurd rfl z)
        exact nxt σ2 w2 H2 s2 B2 I2 q4 q5 q6 (by rw [q8]; exact hS)
      · refine ⟨160, 192, by rw [e]; rfl, rfl, ?_⟩
        obtain ⟨r, σ1, σ2, w2, H2, s2, B2, I2, q1, q2, q3, q4, q5, q6, q7, q8⟩ := pc_edge (a := σ 0 (Int.toNat ((i : Int) + 1))) (b := σ 0 (Int.toNat ((i : Int) + 2))) hG h200 hT80 (hxR _) (hxR _) σ w H s B I hok hc hM
        refine x_aloadn hP 193 1 dL_law_192 rfl rfl mm1 ?_
        refine x_aloadn hP 194 0 dL_law_193 rfl rfl mm0 ?_
        refine x_iloadn hP 195 3 dL_law_194 rfl rfl mm3 ?_
        refine x_iconst hP 196 dL_law_195 rfl ?_
        refine x_iadd hP 197 dL_law_196 rfl ?_
        refine x_xald hP 198 dL_law_197 rfl hL (by omega) ⟨by omega, by omega⟩ ?_
        refine x_aloadn hP 199 0 dL_law_198 rfl rfl mm0 ?_
        refine x_iloadn hP 200 3 dL_law_199 rfl rfl mm3 ?_
        refine x_iconst hP 201 dL_law_200 rfl ?_
        refine x_iadd hP 202 dL_law_201 rfl ?_
        refine x_xald hP 203 dL_law_202 rfl hL (by omega) ⟨by omega, by omega⟩ ?_
        refine x_cv (ci := 5) hP 206 [vI (σ 0 (Int.toNat ((i : Int) + 1))), vI (σ 0 (Int.toNat ((i : Int) + 2)))] [] dL_law_203 rfl hG.O_1 (by decide) rfl ml_RL_23 im_X5_edge se_X5_edge it_RX5 pp_X5_edge bd_X5_edge rfl rfl (by decide) (by simp [pC]) q1 ?_
        refine x_aloadn hP 207 2 dL_law_206 rfl rfl mm2 ?_
        refine x_aloadn hP 208 0 dL_law_207 rfl rfl mm0 ?_
        refine x_iloadn hP 209 3 dL_law_208 rfl rfl mm3 ?_
        refine x_iconst hP 210 dL_law_209 rfl ?_
        refine x_iadd hP 211 dL_law_210 rfl ?_
        refine x_xald hP 212 dL_law_211 rfl hL (by omega) ⟨by omega, by omega⟩ ?_
        refine x_aloadn hP 213 0 dL_law_212 rfl rfl mm0 ?_
        refine x_iloadn hP 214 3 dL_law_213 rfl rfl mm3 ?_
        refine x_iconst hP 215 dL_law_214 rfl ?_
        refine x_iadd hP 216 dL_law_215 rfl ?_
        refine x_xald hP 217 dL_law_216 rfl hL (by omega) ⟨by omega, by omega⟩ ?_
        rw [q7]
        refine x_cv (ci := 6) hP 220 [vI (σ 0 (Int.toNat ((i : Int) + 1))), vI (σ 0 (Int.toNat ((i : Int) + 2)))] [vI r] dL_law_217 rfl hG.O_166 (by decide) rfl ml_RL_26 im_X6_edge se_X6_edge it_RX6 pp_X6_edge bd_X6_edge rfl rfl (by decide) (by simp [pC]) q2 ?_
        refine x_icmp hP 223 728 (r = r) dL_law_220 rfl rfl q3 q3 rfl (fun _ => ?_) (fun z => absurd rfl z)
        exact nxt σ2 w2 H2 s2 B2 I2 q4 q5 q6 (by rw [q8]; exact hS)
      · refine ⟨193, 225, by rw [e]; rfl, rfl, ?_⟩
        obtain ⟨r, σ1, σ2, w2, H2, s2, B2, I2, q1, q2, q3, q4, q5, q6, q7, q8⟩ := pc_truckAt (a := σ 0 (Int.toNat ((i : Int) + 1))) (b := σ 0 (Int.toNat ((i : Int) + 2))) hG h200 hT80 (hxR _) (hxR _) σ w H s B I hok hc hM
        refine x_aloadn hP 226 1 dL_law_225 rfl rfl mm1 ?_
        refine x_aloadn hP 227 0 dL_law_226 rfl rfl mm0 ?_
        refine x_iloadn hP 228 3 dL_law_227 rfl rfl mm3 ?_
        refine x_iconst hP 229 dL_law_228 rfl ?_
        refine x_iadd hP 230 dL_law_229 rfl ?_
        refine x_xald hP 231 dL_law_230 rfl hL (by omega) ⟨by omega, by omega⟩ ?_
        refine x_aloadn hP 232 0 dL_law_231 rfl rfl mm0 ?_
        refine x_iloadn hP 233 3 dL_law_232 rfl rfl mm3 ?_
        refine x_iconst hP 234 dL_law_233 rfl ?_
        refine x_iadd hP 235 dL_law_234 rfl ?_
        refine x_xald hP 236 dL_law_235 rfl hL (by omega) ⟨by omega, by omega⟩ ?_
        refine x_cv (ci := 5) hP 239 [vI (σ 0 (Int.toNat ((i : Int) + 1))), vI (σ 0 (Int.toNat ((i : Int) + 2)))] [] dL_law_236 rfl hG.O_1 (by decide) rfl ml_RL_27 im_X5_truckAt se_X5_truckAt it_RX5 pp_X5_truckAt bd_X5_truckAt rfl rfl (by decide) (by simp [pC]) q1 ?_
        refine x_aloadn hP 240 2 dL_law_239 rfl rfl mm2 ?_
        refine x_aloadn hP 241 0 dL_law_240 rfl rfl mm0 ?_
        refine x_iloadn hP 242 3 dL_law_241 rfl rfl mm3 ?_
        refine x_iconst hP 243 dL_law_242 rfl ?_
        refine x_iadd hP 244 dL_law_243 rfl ?_
        refine x_xald hP 245 dL_law_244 rfl hL (by omega) ⟨by omega, by omega⟩ ?_
        refine x_aloadn hP 246 0 dL_law_245 rfl rfl mm0 ?_
        refine x_iloadn hP 247 3 dL_law_246 rfl rfl mm3 ?_
        refine x_iconst hP 248 dL_law_247 rfl ?_
        refine x_iadd hP 249 dL_law_248 rfl ?_
        refine x_xald hP 250 dL_law_249 rfl hL (by omega) ⟨by omega, by omega⟩ ?_
        rw [q7]
        refine x_cv (ci := 6) hP 253 [vI (σ 0 (Int.toNat ((i : Int) + 1))), vI (σ 0 (Int.toNat ((i : Int) + 2)))] [vI r] dL_law_250 rfl hG.O_166 (by decide) rfl ml_RL_30 im_X6_truckAt se_X6_truckAt it_RX6 pp_X6_truckAt bd_X6_truckAt rfl rfl (by decide) (by simp [pC]) q2 ?_
        refine x_icmp hP 256 728 (r = r) dL_law_253 rfl rfl q3 q3 rfl (fun _ => ?_) (fun z => absurd rfl z)
        exact nxt σ2 w2 H2 s2 B2 I2 q4 q5 q6 (by rw [q8]; exact hS)
      · refine ⟨226, 258, by rw [e]; rfl, rfl, ?_⟩
        obtain ⟨r, σ1, σ2, w2, H2, s2, B2, I2, q1, q2, q3, q4, q5, q6, q7, q8⟩ := pc_build (a := σ 0 (Int.toNat ((i : Int) + 1))) (b := σ 0 (Int.toNat ((i : Int) + 2))) hG h10 hT80 (hxR _) (hxR _) σ w H s B I hok hc hM
        refine x_aloadn hP 259 1 dL_law_258 rfl rfl mm1 ?_
        refine x_aloadn hP 260 0 dL_law_259 rfl rfl mm0 ?_
        refine x_iloadn hP 261 3 dL_law_260 rfl rfl mm3 ?_
        refine x_iconst hP 262 dL_law_261 rfl ?_
        refine x_iadd hP 263 dL_law_262 rfl ?_
        refine x_xald hP 264 dL_law_263 rfl hL (by omega) ⟨by omega, by omega⟩ ?_
        refine x_aloadn hP 265 0 dL_law_264 rfl rfl mm0 ?_
        refine x_iloadn hP 266 3 dL_law_265 rfl rfl mm3 ?_
        refine x_iconst hP 267 dL_law_266 rfl ?_
        refine x_iadd hP 268 dL_law_267 rfl ?_
        refine x_xald hP 269 dL_law_268 rfl hL (by omega) ⟨by omega, by omega⟩ ?_
        refine x_cv (ci := 5) hP 272 [vI (σ 0 (Int.toNat ((i : Int) + 1))), vI (σ 0 (Int.toNat ((i : Int) + 2)))] [] dL_law_269 rfl hG.O_1 (by decide) rfl ml_RL_31 im_X5_build se_X5_build it_RX5 pp_X5_build bd_X5_build rfl rfl (by decide) (by simp [pC]) q1 ?_
        refine x_aloadn hP 273 2 dL_law_272 rfl rfl mm2 ?_
        refine x_aloadn hP 274 0 dL_law_273 rfl rfl mm0 ?_
        refine x_iloadn hP 275 3 dL_law_274 rfl rfl mm3 ?_
        refine x_iconst hP 276 dL_law_275 rfl ?_
        refine x_iadd hP 277 dL_law_276 rfl ?_
        refine x_xald hP 278 dL_law_277 rfl hL (by omega) ⟨by omega, by omega⟩ ?_
        refine x_aloadn hP 279 0 dL_law_278 rfl rfl mm0 ?_
        refine x_iloadn hP 280 3 dL_law_279 rfl rfl mm3 ?_
        refine x_iconst hP 281 dL_law_280 rfl ?_
        refine x_iadd hP 282 dL_law_281 rfl ?_
        refine x_xald hP 283 dL_law_282 rfl hL (by omega) ⟨by omega, by omega⟩ ?_
        rw [q7]
        refine x_cv (ci := 6) hP 286 [vI (σ 0 (Int.toNat ((i : Int) + 1))), vI (σ 0 (Int.toNat ((i : Int) + 2)))] [vI r] dL_law_283 rfl hG.O_166 (by decide) rfl ml_RL_34 im_X6_build se_X6_build it_RX6 pp_X6_build bd_X6_build rfl rfl (by decide) (by simp [pC]) q2 ?_
        refine x_icmp hP 289 728 (r = r) dL_law_286 rfl rfl q3 q3 rfl (fun _ => ?_) (fun z => absurd rfl z)
        exact nxt σ2 w2 H2 s2 B2 I2 q4 q5 q6 (by rw [q8]; exact hS)
      · refine ⟨259, 291, by rw [e]; rfl, rfl, ?_⟩
        obtain ⟨r, σ1, σ2, w2, H2, s2, B2, I2, q1, q2, q3, q4, q5, q6, q7, q8⟩ := pc_truck (a := σ 0 (Int.toNat ((i : Int) + 1))) (b := σ 0 (Int.toNat ((i : Int) + 2))) hG h10 hT80 (hxR _) (hxR _) σ w H s B I hok hc hM
        refine x_aloadn hP 292 1 dL_law_291 rfl rfl mm1 ?_
        refine x_aloadn hP 293 0 dL_law_292 rfl rfl mm0 ?_
        refine x_iloadn hP 294 3 dL_law_293 rfl rfl mm3 ?_
        refine x_iconst hP 295 dL_law_294 rfl ?_
        refine x_iadd hP 296 dL_law_295 rfl ?_
        refine x_xald hP 297 dL_law_296 rfl hL (by omega) ⟨by omega, by omega⟩ ?_
        refine x_aloadn hP 298 0 dL_law_297 rfl rfl mm0 ?_
        refine x_iloadn hP 299 3 dL_law_298 rfl rfl mm3 ?_
        refine x_iconst hP 300 dL_law_299 rfl ?_
        refine x_iadd hP 301 dL_law_300 rfl ?_
        refine x_xald hP 302 dL_law_301 rfl hL (by omega) ⟨by omega, by omega⟩ ?_
        refine x_cv (ci := 5) hP 305 [vI (σ 0 (Int.toNat ((i : Int) + 1))), vI (σ 0 (Int.toNat ((i : Int) + 2)))] [] dL_law_302 rfl hG.O_1 (by decide) rfl ml_RL_35 im_X5_truck se_X5_truck it_RX5 pp_X5_truck bd_X5_truck rfl rfl (by decide) (by simp [pC]) q1 ?_
        refine x_aloadn hP 306 2 dL_law_305 rfl rfl mm2 ?_
        refine x_aloadn hP 307 0 dL_law_306 rfl rfl mm0 ?_
        refine x_iloadn hP 308 3 dL_law_307 rfl rfl mm3 ?_
        refine x_iconst hP 309 dL_law_308 rfl ?_
        refine x_iadd hP 310 dL_law_309 rfl ?_
        refine x_xald hP 311 dL_law_310 rfl hL (by omega) ⟨by omega, by omega⟩ ?_
        refine x_aloadn hP 312 0 dL_law_311 rfl rfl mm0 ?_
        refine x_iloadn hP 313 3 dL_law_312 rfl rfl mm3 ?_
        refine x_iconst hP 314 dL_law_313 rfl ?_
        refine x_iadd hP 315 dL_law_314 rfl ?_
        refine x_xald hP 316 dL_law_315 rfl hL (by omega) ⟨by omega, by omega⟩ ?_
        rw [q7]
        refine x_cv (ci := 6) hP 319 [vI (σ 0 (Int.toNat ((i : Int) + 1))), vI (σ 0 (Int.toNat ((i : Int) + 2)))] [vI r] dL_law_316 rfl hG.O_166 (by decide) rfl ml_RL_38 im_X6_truck se_X6_truck it_RX6 pp_X6_truck bd_X6_truck rfl rfl (by decide) (by simp [pC]) q2 ?_
        refine x_icmp hP 322 728 (r = r) dL_law_319 rfl rfl q3 q3 rfl (fun _ => ?_) (fun z => absurd rfl z)
        exact nxt σ2 w2 H2 s2 B2 I2 q4 q5 q6 (by rw [q8]; exact hS)
      · refine ⟨292, 324, by rw [e]; rfl, rfl, ?_⟩
        obtain ⟨r, σ1, σ2, w2, H2, s2, B2, I2, q1, q2, q3, q4, q5, q6, q7, q8⟩ := pc_late (a := σ 0 (Int.toNat ((i : Int) + 1))) (b := σ 0 (Int.toNat ((i : Int) + 2))) hG h10 hT80 (hxR _) (hxR _) σ w H s B I hok hc hM
        refine x_aloadn hP 325 1 dL_law_324 rfl rfl mm1 ?_
        refine x_aloadn hP 326 0 dL_law_325 rfl rfl mm0 ?_
        refine x_iloadn hP 327 3 dL_law_326 rfl rfl mm3 ?_
        refine x_iconst hP 328 dL_law_327 rfl ?_
        refine x_iadd hP 329 dL_law_328 rfl ?_
        refine x_xald hP 330 dL_law_329 rfl hL (by omega) ⟨by omega, by omega⟩ ?_
        refine x_aloadn hP 331 0 dL_law_330 rfl rfl mm0 ?_
        refine x_iloadn hP 332 3 dL_law_331 rfl rfl mm3 ?_
        refine x_iconst hP 333 dL_law_332 rfl ?_
        refine x_iadd hP 334 dL_law_333 rfl ?_
        refine x_xald hP 335 dL_law_334 rfl hL (by omega) ⟨by omega, by omega⟩ ?_
        refine x_cv (ci := 5) hP 338 [vI (σ 0 (Int.toNat ((i : Int) + 1))), vI (σ 0 (Int.toNat ((i : Int) + 2)))] [] dL_law_335 rfl hG.O_1 (by decide) rfl ml_RL_39 im_X5_late se_X5_late it_RX5 pp_X5_late bd_X5_late rfl rfl (by decide) (by simp [pC]) q1 ?_
        refine x_aloadn hP 339 2 dL_law_338 rfl rfl mm2 ?_
        refine x_aloadn hP 340 0 dL_law_339 rfl rfl mm0 ?_
        refine x_iloadn hP 341 3 dL_law_340 rfl rfl mm3 ?_
        refine x_iconst hP 342 dL_law_341 rfl ?_
        refine x_iadd hP 343 dL_law_342 rfl ?_
        refine x_xald hP 344 dL_law_343 rfl hL (by omega) ⟨by omega, by omega⟩ ?_
        refine x_aloadn hP 345 0 dL_law_344 rfl rfl mm0 ?_
        refine x_iloadn hP 346 3 dL_law_345 rfl rfl mm3 ?_
        refine x_iconst hP 347 dL_law_346 rfl ?_
        refine x_iadd hP 348 dL_law_347 rfl ?_
        refine x_xald hP 349 dL_law_348 rfl hL (by omega) ⟨by omega, by omega⟩ ?_
        rw [q7]
        refine x_cv (ci := 6) hP 352 [vI (σ 0 (Int.toNat ((i : Int) + 1))), vI (σ 0 (Int.toNat ((i : Int) + 2)))] [vI r] dL_law_349 rfl hG.O_166 (by decide) rfl ml_RL_42 im_X6_late se_X6_late it_RX6 pp_X6_late bd_X6_late rfl rfl (by decide) (by simp [pC]) q2 ?_
        refine x_icmp hP 355 728 (r = r) dL_law_352 rfl rfl q3 q3 rfl (fun _ => ?_) (fun z => absurd rfl z)
        exact nxt σ2 w2 H2 s2 B2 I2 q4 q5 q6 (by rw [q8]; exact hS)
      · refine ⟨325, 357, by rw [e]; rfl, rfl, ?_⟩
        obtain ⟨r, σ1, σ2, w2, H2, s2, B2, I2, q1, q2, q3, q4, q5, q6, q7, q8⟩ := pc_away (a := σ 0 (Int.toNat ((i : Int) + 1))) hG h10 hT80 (hxR _) σ w H s B I hok hc hM
        refine x_aloadn hP 358 1 dL_law_357 rfl rfl mm1 ?_
        refine x_aloadn hP 359 0 dL_law_358 rfl rfl mm0 ?_
        refine x_iloadn hP 360 3 dL_law_359 rfl rfl mm3 ?_
        refine x_iconst hP 361 dL_law_360 rfl ?_
        refine x_iadd hP 362 dL_law_361 rfl ?_
        refine x_xald hP 363 dL_law_362 rfl hL (by omega) ⟨by omega, by omega⟩ ?_
        refine x_cv (ci := 5) hP 366 [vI (σ 0 (Int.toNat ((i : Int) + 1)))] [] dL_law_363 rfl hG.O_1 (by decide) rfl ml_RL_43 im_X5_away se_X5_away it_RX5 pp_X5_away bd_X5_away rfl rfl (by decide) (by simp [pC]) q1 ?_
        refine x_aloadn hP 367 2 dL_law_366 rfl rfl mm2 ?_
        refine x_aloadn hP 368 0 dL_law_367 rfl rfl mm0 ?_
        refine x_iloadn hP 369 3 dL_law_368 rfl rfl mm3 ?_
        refine x_iconst hP 370 dL_law_369 rfl ?_
        refine x_iadd hP 371 dL_law_370 rfl ?_
        refine x_xald hP 372 dL_law_371 rfl hL (by omega) ⟨by omega, by omega⟩ ?_
        rw [q7]
        refine x_cv (ci := 6) hP 375 [vI (σ 0 (Int.toNat ((i : Int) + 1)))] [vI r] dL_law_372 rfl hG.O_166 (by decide) rfl ml_RL_46 im_X6_away se_X6_away it_RX6 pp_X6_away bd_X6_away rfl rfl (by decide) (by simp [pC]) q2 ?_
        refine x_icmp hP 378 728 (r = r) dL_law_375 rfl rfl q3 q3 rfl (fun _ => ?_) (fun z => absurd rfl z)
        exact nxt σ2 w2 H2 s2 B2 I2 q4 q5 q6 (by rw [q8]; exact hS)
      · refine ⟨348, 380, by rw [e]; rfl, rfl, ?_⟩
        obtain ⟨r, σ1, σ2, w2, H2, s2, B2, I2, q1, q2, q3, q4, q5, q6, q7, q8⟩ := pc_need (a := σ 0 (Int.toNat ((i : Int) + 1))) (b := σ 0 (Int.toNat ((i : Int) + 2))) hG h10 hT80 (hxR _) (hxR _) σ w H s B I hok hc hM
        refine x_aloadn hP 381 1 dL_law_380 rfl rfl mm1 ?_
        refine x_aloadn hP 382 0 dL_law_381 rfl rfl mm0 ?_
        refine x_iloadn hP 383 3 dL_law_382 rfl rfl mm3 ?_
        refine x_iconst hP 384 dL_law_383 rfl ?_
        refine x_iadd hP 385 dL_law_384 rfl ?_
        refine x_xald hP 386 dL_law_385 rfl hL (by omega) ⟨by omega, by omega⟩ ?_
        refine x_aloadn hP 387 0 dL_law_386 rfl rfl mm0 ?_
        refine x_iloadn hP 388 3 dL_law_387 rfl rfl mm3 ?_
        refine x_iconst hP 389 dL_law_388 rfl ?_
        refine x_iadd hP 390 dL_law_389 rfl ?_
        refine x_xald hP 391 dL_law_390 rfl hL (by omega) ⟨by omega, by omega⟩ ?_
        refine x_cv (ci := 5) hP 394 [vI (σ 0 (Int.toNat ((i : Int) + 1))), vI (σ 0 (Int.toNat ((i : Int) + 2)))] [] dL_law_391 rfl hG.O_1 (by decide) rfl ml_RL_47 im_X5_need se_X5_need it_RX5 pp_X5_need bd_X5_need rfl rfl (by decide) (by simp [pC]) q1 ?_
        refine x_aloadn hP 395 2 dL_law_394 rfl rfl mm2 ?_
        refine x_aloadn hP 396 0 dL_law_395 rfl rfl mm0 ?_
        refine x_iloadn hP 397 3 dL_law_396 rfl rfl mm3 ?_
        refine x_iconst hP 398 dL_law_397 rfl ?_
        refine x_iadd hP 399 dL_law_398 rfl ?_
        refine x_xald hP 400 dL_law_399 rfl hL (by omega) ⟨by omega, by omega⟩ ?_
        refine x_aloadn hP 401 0 dL_law_400 rfl rfl mm0 ?_
        refine x_iloadn hP 402 3 dL_law_401 rfl rfl mm3 ?_
        refine x_iconst hP 403 dL_law_402 rfl ?_
        refine x_iadd hP 404 dL_law_403 rfl ?_
        refine x_xald hP 405 dL_law_404 rfl hL (by omega) ⟨by omega, by omega⟩ ?_
        rw [q7]
        refine x_cv (ci := 6) hP 408 [vI (σ 0 (Int.toNat ((i : Int) + 1))), vI (σ 0 (Int.toNat ((i : Int) + 2)))] [vI r] dL_law_405 rfl hG.O_166 (by decide) rfl ml_RL_50 im_X6_need se_X6_need it_RX6 pp_X6_need bd_X6_need rfl rfl (by decide) (by simp [pC]) q2 ?_
        refine x_icmp hP 411 728 (r = r) dL_law_408 rfl rfl q3 q3 rfl (fun _ => ?_) (fun z => absurd rfl z)
        exact nxt σ2 w2 H2 s2 B2 I2 q4 q5 q6 (by rw [q8]; exact hS)
      · refine ⟨381, 413, by rw [e]; rfl, rfl, ?_⟩
        obtain ⟨r, σ1, σ2, w2, H2, s2, B2, I2, q1, q2, q3, q4, q5, q6, q7, q8⟩ := pc_bound (a := σ 0 (Int.toNat ((i : Int) + 1))) (b := σ 0 (Int.toNat ((i : Int) + 2))) hG h10 hT80 (hxR _) (hxR _) σ w H s B I hok hc hM
        refine x_aloadn hP 414 1 dL_law_413 rfl rfl mm1 ?_
        refine x_aloadn hP 415 0 dL_law_414 rfl rfl mm0 ?_
        refine x_iloadn hP 416 3 dL_law_415 rfl rfl mm3 ?_
        refine x_iconst hP 417 dL_law_416 rfl ?_
        refine x_iadd hP 418 dL_law_417 rfl ?_
        refine x_xald hP 419 dL_law_418 rfl hL (by omega) ⟨by omega, by omega⟩ ?_
        refine x_aloadn hP 420 0 dL_law_419 rfl rfl mm0 ?_
        refine x_iloadn hP 421 3 dL_law_420 rfl rfl mm3 ?_
        refine x_iconst hP 422 dL_law_421 rfl ?_
        refine x_iadd hP 423 dL_law_422 rfl ?_
        refine x_xald hP 424 dL_law_423 rfl hL (by omega) ⟨by omega, by omega⟩ ?_
        refine x_cv (ci := 5) hP 427 [vI (σ 0 (Int.toNat ((i : Int) + 1))), vI (σ 0 (Int.toNat ((i : Int) + 2)))] [] dL_law_424 rfl hG.O_1 (by decide) rfl ml_RL_51 im_X5_bound se_X5_bound it_RX5 pp_X5_bound bd_X5_bound rfl rfl (by decide) (by simp [pC]) q1 ?_
        refine x_aloadn hP 428 2 dL_law_427 rfl rfl mm2 ?_
        refine x_aloadn hP 429 0 dL_law_428 rfl rfl mm0 ?_
        refine x_iloadn hP 430 3 dL_law_429 rfl rfl mm3 ?_
        refine x_iconst hP 431 dL_law_430 rfl ?_
        refine x_iadd hP 432 dL_law_431 rfl ?_
        refine x_xald hP 433 dL_law_432 rfl hL (by omega) ⟨by omega, by omega⟩ ?_
        refine x_aloadn hP 434 0 dL_law_433 rfl rfl mm0 ?_
        refine x_iloadn hP 435 3 dL_law_434 rfl rfl mm3 ?_
        refine x_iconst hP 436 dL_law_435 rfl ?_
        refine x_iadd hP 437 dL_law_436 rfl ?_
        refine x_xald hP 438 dL_law_437 rfl hL (by omega) ⟨by omega, by omega⟩ ?_
        rw [q7]
        refine x_cv (ci := 6) hP 441 [vI (σ 0 (Int.toNat ((i : Int) + 1))), vI (σ 0 (Int.toNat ((i : Int) + 2)))] [vI r] dL_law_438 rfl hG.O_166 (by decide) rfl ml_RL_54 im_X6_bound se_X6_bound it_RX6 pp_X6_bound bd_X6_bound rfl rfl (by decide) (by simp [pC]) q2 ?_
        refine x_icmp hP 444 728 (r = r) dL_law_441 rfl rfl q3 q3 rfl (fun _ => ?_) (fun z => absurd rfl z)
        exact nxt σ2 w2 H2 s2 B2 I2 q4 q5 q6 (by rw [q8]; exact hS)
      · refine ⟨414, 446, by rw [e]; rfl, rfl, ?_⟩
        obtain ⟨r, σ1, σ2, w2, H2, s2, B2, I2, q1, q2, q3, q4, q5, q6, q7, q8⟩ := pc_pour (a := σ 0 (Int.toNat ((i : Int) + 1))) hG h10 hT80 (hxR _) σ w H s B I hok hc hM
        refine x_aloadn hP 447 1 dL_law_446 rfl rfl mm1 ?_
        refine x_aloadn hP 448 0 dL_law_447 rfl rfl mm0 ?_
        refine x_iloadn hP 449 3 dL_law_448 rfl rfl mm3 ?_
        refine x_iconst hP 450 dL_law_449 rfl ?_
        refine x_iadd hP 451 dL_law_450 rfl ?_
        refine x_xald hP 452 dL_law_451 rfl hL (by omega) ⟨by omega, by omega⟩ ?_
        refine x_cv (ci := 5) hP 455 [vI (σ 0 (Int.toNat ((i : Int) + 1)))] [] dL_law_452 rfl hG.O_1 (by decide) rfl ml_RL_55 im_X5_pour se_X5_pour it_RX5 pp_X5_pour bd_X5_pour rfl rfl (by decide) (by simp [pC]) q1 ?_
        refine x_aloadn hP 456 2 dL_law_455 rfl rfl mm2 ?_
        refine x_aloadn hP 457 0 dL_law_456 rfl rfl mm0 ?_
        refine x_iloadn hP 458 3 dL_law_457 rfl rfl mm3 ?_
        refine x_iconst hP 459 dL_law_458 rfl ?_
        refine x_iadd hP 460 dL_law_459 rfl ?_
        refine x_xald hP 461 dL_law_460 rfl hL (by omega) ⟨by omega, by omega⟩ ?_
        rw [q7]
        refine x_cv (ci := 6) hP 464 [vI (σ 0 (Int.toNat ((i : Int) + 1)))] [vI r] dL_law_461 rfl hG.O_166 (by decide) rfl ml_RL_58 im_X6_pour se_X6_pour it_RX6 pp_X6_pour bd_X6_pour rfl rfl (by decide) (by simp [pC]) q2 ?_
        refine x_icmp hP 467 728 (r = r) dL_law_464 rfl rfl q3 q3 rfl (fun _ => ?_) (fun z => absurd rfl z)
        exact nxt σ2 w2 H2 s2 B2 I2 q4 q5 q6 (by rw [q8]; exact hS)
      · refine ⟨437, 469, by rw [e]; rfl, rfl, ?_⟩
        obtain ⟨r, σ1, σ2, w2, H2, s2, B2, I2, q1, q2, q3, q4, q5, q6, q7, q8⟩ := pc_rest (a := σ 0 (Int.toNat ((i : Int) + 1))) hG h10 hT80 (hxR _) σ w H s B I hok hc hM
        refine x_aloadn hP 470 1 dL_law_469 rfl rfl mm1 ?_
        refine x_aloadn hP 471 0 dL_law_470 rfl rfl mm0 ?_
        refine x_iloadn hP 472 3 dL_law_471 rfl rfl mm3 ?_
        refine x_iconst hP 473 dL_law_472 rfl ?_
        refine x_iadd hP 474 dL_law_473 rfl ?_
        refine x_xald hP 475 dL_law_474 rfl hL (by omega) ⟨by omega, by omega⟩ ?_
        refine x_cv (ci := 5) hP 478 [vI (σ 0 (Int.toNat ((i : Int) + 1)))] [] dL_law_475 rfl hG.O_1 (by decide) rfl ml_RL_59 im_X5_rest se_X5_rest it_RX5 pp_X5_rest bd_X5_rest rfl rfl (by decide) (by simp [pC]) q1 ?_
        refine x_aloadn hP 479 2 dL_law_478 rfl rfl mm2 ?_
        refine x_aloadn hP 480 0 dL_law_479 rfl rfl mm0 ?_
        refine x_iloadn hP 481 3 dL_law_480 rfl rfl mm3 ?_
        refine x_iconst hP 482 dL_law_481 rfl ?_
        refine x_iadd hP 483 dL_law_482 rfl ?_
        refine x_xald hP 484 dL_law_483 rfl hL (by omega) ⟨by omega, by omega⟩ ?_
        rw [q7]
        refine x_cv (ci := 6) hP 487 [vI (σ 0 (Int.toNat ((i : Int) + 1)))] [vI r] dL_law_484 rfl hG.O_166 (by decide) rfl ml_RL_62 im_X6_rest se_X6_rest it_RX6 pp_X6_rest bd_X6_rest rfl rfl (by decide) (by simp [pC]) q2 ?_
        refine x_icmp hP 490 728 (r = r) dL_law_487 rfl rfl q3 q3 rfl (fun _ => ?_) (fun z => absurd rfl z)
        exact nxt σ2 w2 H2 s2 B2 I2 q4 q5 q6 (by rw [q8]; exact hS)
      · refine ⟨460, 492, by rw [e]; rfl, rfl, ?_⟩
        obtain ⟨r, σ1, σ2, w2, H2, s2, B2, I2, q1, q2, q3, q4, q5, q6, q7, q8⟩ := pc_follow hG h10 hT80 σ w H s B I hok hc hM
        refine x_aloadn hP 493 1 dL_law_492 rfl rfl mm1 ?_
        refine x_cv (ci := 5) hP 496 [] [] dL_law_493 rfl hG.O_1 (by decide) rfl ml_RL_63 im_X5_follow se_X5_follow it_RX5 pp_X5_follow bd_X5_follow rfl rfl (by decide) (by simp [pC]) q1 ?_
        refine x_aloadn hP 497 2 dL_law_496 rfl rfl mm2 ?_
        refine x_cv (ci := 6) hP 500 [] [vI r] dL_law_497 rfl hG.O_166 (by decide) rfl ml_RL_67 im_X6_follow se_X6_follow it_RX6 pp_X6_follow bd_X6_follow rfl rfl (by decide) (by simp [pC]) q2 ?_
        refine x_icmp hP 503 728 (r = r) dL_law_500 rfl rfl q3 q3 rfl (fun _ => ?_) (fun z => absurd rfl z)
        exact nxt σ2 w2 H2 s2 B2 I2 q4 q5 q6 (by rw [q8]; exact hS)
      · refine ⟨473, 505, by rw [e]; rfl, rfl, ?_⟩
        obtain ⟨r, σ1, σ2, w2, H2, s2, B2, I2, q1, q2, q3, q4, q5, q6, q7, q8⟩ := pc_drift (a := σ 0 (Int.toNat ((i : Int) + 1))) hG h10 hT80 (hxR _) σ w H s B I hok hc hM
        refine x_aloadn hP 506 1 dL_law_505 rfl rfl mm1 ?_
        refine x_aloadn hP 507 0 dL_law_506 rfl rfl mm0 ?_
        refine x_iloadn hP 508 3 dL_law_507 rfl rfl mm3 ?_
        refine x_iconst hP 509 dL_law_508 rfl ?_
        refine x_iadd hP 510 dL_law_509 rfl ?_
        refine x_xald hP 511 dL_law_510 rfl hL (by omega) ⟨by omega, by omega⟩ ?_
        refine x_cv (ci := 5) hP 514 [vI (σ 0 (Int.toNat ((i : Int) + 1)))] [] dL_law_511 rfl hG.O_1 (by decide) rfl ml_RL_68 im_X5_drift se_X5_drift it_RX5 pp_X5_drift bd_X5_drift rfl rfl (by decide) (by simp [pC]) q1 ?_
        refine x_aloadn hP 515 2 dL_law_514 rfl rfl mm2 ?_
        refine x_aloadn hP 516 0 dL_law_515 rfl rfl mm0 ?_
        refine x_iloadn hP 517 3 dL_law_516 rfl rfl mm3 ?_
        refine x_iconst hP 518 dL_law_517 rfl ?_
        refine x_iadd hP 519 dL_law_518 rfl ?_
        refine x_xald hP 520 dL_law_519 rfl hL (by omega) ⟨by omega, by omega⟩ ?_
        rw [q7]
        refine x_cv (ci := 6) hP 523 [vI (σ 0 (Int.toNat ((i : Int) + 1)))] [vI r] dL_law_520 rfl hG.O_166 (by decide) rfl ml_RL_71 im_X6_drift se_X6_drift it_RX6 pp_X6_drift bd_X6_drift rfl rfl (by decide) (by simp [pC]) q2 ?_
        refine x_icmp hP 526 728 (r = r) dL_law_523 rfl rfl q3 q3 rfl (fun _ => ?_) (fun z => absurd rfl z)
        exact nxt σ2 w2 H2 s2 B2 I2 q4 q5 q6 (by rw [q8]; exact hS)
      · refine ⟨496, 528, by rw [e]; rfl, rfl, ?_⟩
        obtain ⟨r, σ1, σ2, w2, H2, s2, B2, I2, q1, q2, q3, q4, q5, q6, q7, q8⟩ := pc_undo (a := σ 0 (Int.toNat ((i : Int) + 1))) hG h10 hT80 (hxR _) σ w H s B I hok hc hM
        refine x_aloadn hP 529 1 dL_law_528 rfl rfl mm1 ?_
        refine x_aloadn hP 530 0 dL_law_529 rfl rfl mm0 ?_
        refine x_iloadn hP 531 3 dL_law_530 rfl rfl mm3 ?_
        refine x_iconst hP 532 dL_law_531 rfl ?_
        refine x_iadd hP 533 dL_law_532 rfl ?_
        refine x_xald hP 534 dL_law_533 rfl hL (by omega) ⟨by omega, by omega⟩ ?_
        refine x_cv (ci := 5) hP 537 [vI (σ 0 (Int.toNat ((i : Int) + 1)))] [] dL_law_534 rfl hG.O_1 (by decide) rfl ml_RL_72 im_X5_undo se_X5_undo it_RX5 pp_X5_undo bd_X5_undo rfl rfl (by decide) (by simp [pC]) q1 ?_
        refine x_aloadn hP 538 2 dL_law_537 rfl rfl mm2 ?_
        refine x_aloadn hP 539 0 dL_law_538 rfl rfl mm0 ?_
        refine x_iloadn hP 540 3 dL_law_539 rfl rfl mm3 ?_
        refine x_iconst hP 541 dL_law_540 rfl ?_
        refine x_iadd hP 542 dL_law_541 rfl ?_
        refine x_xald hP 543 dL_law_542 rfl hL (by omega) ⟨by omega, by omega⟩ ?_
        rw [q7]
        refine x_cv (ci := 6) hP 546 [vI (σ 0 (Int.toNat ((i : Int) + 1)))] [vI r] dL_law_543 rfl hG.O_166 (by decide) rfl ml_RL_75 im_X6_undo se_X6_undo it_RX6 pp_X6_undo bd_X6_undo rfl rfl (by decide) (by simp [pC]) q2 ?_
        refine x_icmp hP 549 728 (r = r) dL_law_546 rfl rfl q3 q3 rfl (fun _ => ?_) (fun z => absurd rfl z)
        exact nxt σ2 w2 H2 s2 B2 I2 q4 q5 q6 (by rw [q8]; exact hS)
      · refine ⟨519, 551, by rw [e]; rfl, rfl, ?_⟩
        obtain ⟨r, σ1, σ2, w2, H2, s2, B2, I2, q1, q2, q3, q4, q5, q6, q7, q8⟩ := pc_best (a := σ 0 (Int.toNat ((i : Int) + 1))) hG h200 hT80 (hxR _) σ w H s B I hok hc hM
        refine x_aloadn hP 552 1 dL_law_551 rfl rfl mm1 ?_
        refine x_aloadn hP 553 0 dL_law_552 rfl rfl mm0 ?_
        refine x_iloadn hP 554 3 dL_law_553 rfl rfl mm3 ?_
        refine x_iconst hP 555 dL_law_554 rfl ?_
        refine x_iadd hP 556 dL_law_555 rfl ?_
        refine x_xald hP 557 dL_law_556 rfl hL (by omega) ⟨by omega, by omega⟩ ?_
        refine x_cv (ci := 5) hP 560 [vI (σ 0 (Int.toNat ((i : Int) + 1)))] [] dL_law_557 rfl hG.O_1 (by decide) rfl ml_RL_76 im_X5_best se_X5_best it_RX5 pp_X5_best bd_X5_best rfl rfl (by decide) (by simp [pC]) q1 ?_
        refine x_aloadn hP 561 2 dL_law_560 rfl rfl mm2 ?_
        refine x_aloadn hP 562 0 dL_law_561 rfl rfl mm0 ?_
        refine x_iloadn hP 563 3 dL_law_562 rfl rfl mm3 ?_
        refine x_iconst hP 564 dL_law_563 rfl ?_
        refine x_iadd hP 565 dL_law_564 rfl ?_
        refine x_xald hP 566 dL_law_565 rfl hL (by omega) ⟨by omega, by omega⟩ ?_
        rw [q7]
        refine x_cv (ci := 6) hP 569 [vI (σ 0 (Int.toNat ((i : Int) + 1)))] [vI r] dL_law_566 rfl hG.O_166 (by decide) rfl ml_RL_79 im_X6_best se_X6_best it_RX6 pp_X6_best bd_X6_best rfl rfl (by decide) (by simp [pC]) q2 ?_
        refine x_icmp hP 572 728 (r = r) dL_law_569 rfl rfl q3 q3 rfl (fun _ => ?_) (fun z => absurd rfl z)
        exact nxt σ2 w2 H2 s2 B2 I2 q4 q5 q6 (by rw [q8]; exact hS)
      · refine ⟨542, 574, by rw [e]; rfl, rfl, ?_⟩
        obtain ⟨r, σ1, σ2, w2, H2, s2, B2, I2, q1, q2, q3, q4, q5, q6, q7, q8⟩ := pc_stop (a := σ 0 (Int.toNat ((i : Int) + 1))) hG h200 hT80 (hxR _) σ w H s B I hok hc hM
        refine x_aloadn hP 575 1 dL_law_574 rfl rfl mm1 ?_
        refine x_aloadn hP 576 0 dL_law_575 rfl rfl mm0 ?_
        refine x_iloadn hP 577 3 dL_law_576 rfl rfl mm3 ?_
        refine x_iconst hP 578 dL_law_577 rfl ?_
        refine x_iadd hP 579 dL_law_578 rfl ?_
        refine x_xald hP 580 dL_law_579 rfl hL (by omega) ⟨by omega, by omega⟩ ?_
        refine x_cv (ci := 5) hP 583 [vI (σ 0 (Int.toNat ((i : Int) + 1)))] [] dL_law_580 rfl hG.O_1 (by decide) rfl ml_RL_80 im_X5_stop se_X5_stop it_RX5 pp_X5_stop bd_X5_stop rfl rfl (by decide) (by simp [pC]) q1 ?_
        refine x_aloadn hP 584 2 dL_law_583 rfl rfl mm2 ?_
        refine x_aloadn hP 585 0 dL_law_584 rfl rfl mm0 ?_
        refine x_iloadn hP 586 3 dL_law_585 rfl rfl mm3 ?_
        refine x_iconst hP 587 dL_law_586 rfl ?_
        refine x_iadd hP 588 dL_law_587 rfl ?_
        refine x_xald hP 589 dL_law_588 rfl hL (by omega) ⟨by omega, by omega⟩ ?_
        rw [q7]
        refine x_cv (ci := 6) hP 592 [vI (σ 0 (Int.toNat ((i : Int) + 1)))] [vI r] dL_law_589 rfl hG.O_166 (by decide) rfl ml_RL_83 im_X6_stop se_X6_stop it_RX6 pp_X6_stop bd_X6_stop rfl rfl (by decide) (by simp [pC]) q2 ?_
        refine x_icmp hP 595 728 (r = r) dL_law_592 rfl rfl q3 q3 rfl (fun _ => ?_) (fun z => absurd rfl z)
        exact nxt σ2 w2 H2 s2 B2 I2 q4 q5 q6 (by rw [q8]; exact hS)
      · refine ⟨565, 597, by rw [e]; rfl, rfl, ?_⟩
        rcases Classical.em (σ 0 (Int.toNat ((i : Int) + 2)) = 0) with hz | hz
        · obtain ⟨r, σ1, σ2, w2, H2, s2, B2, I2, q1, q2, q3, q4, q5, q6, q7, q8⟩ := pc_write (a := σ 0 (Int.toNat ((i : Int) + 1))) (b := 0) hG h10 hT80 (hxR _) (by decide) σ w H s B I hok hc hM
          refine x_aloadn hP 598 1 dL_law_597 rfl rfl mm1 ?_
          refine x_aloadn hP 599 0 dL_law_598 rfl rfl mm0 ?_
          refine x_iloadn hP 600 3 dL_law_599 rfl rfl mm3 ?_
          refine x_iconst hP 601 dL_law_600 rfl ?_
          refine x_iadd hP 602 dL_law_601 rfl ?_
          refine x_xald hP 603 dL_law_602 rfl hL (by omega) ⟨by omega, by omega⟩ ?_
          refine x_aloadn hP 604 0 dL_law_603 rfl rfl mm0 ?_
          refine x_iloadn hP 605 3 dL_law_604 rfl rfl mm3 ?_
          refine x_iconst hP 606 dL_law_605 rfl ?_
          refine x_iadd hP 607 dL_law_606 rfl ?_
          refine x_xald hP 608 dL_law_607 rfl hL (by omega) ⟨by omega, by omega⟩ ?_
          refine x_ifc hP 611 615 (σ 0 (Int.toNat ((i : Int) + 2)) = 0) dL_law_608 rfl rfl (hxR _) rfl (fun hbr => ?_) (fun hbr => ?_)
          rotate_left
          · exact absurd hz hbr
          refine x_iconst hP 616 dL_law_615 rfl ?_
          refine x_cv (ci := 5) hP 619 [vI (σ 0 (Int.toNat ((i : Int) + 1))), vI 0] [] dL_law_616 rfl hG.O_1 (by decide) rfl ml_RL_84 im_X5_write se_X5_write it_RX5 pp_X5_write bd_X5_write rfl rfl (by decide) (by simp [pC]) q1 ?_
          refine x_aloadn hP 620 2 dL_law_619 rfl rfl mm2 ?_
          refine x_aloadn hP 621 0 dL_law_620 rfl rfl mm0 ?_
          refine x_iloadn hP 622 3 dL_law_621 rfl rfl mm3 ?_
          refine x_iconst hP 623 dL_law_622 rfl ?_
          refine x_iadd hP 624 dL_law_623 rfl ?_
          refine x_xald hP 625 dL_law_624 rfl hL (by omega) ⟨by omega, by omega⟩ ?_
          refine x_aloadn hP 626 0 dL_law_625 rfl rfl mm0 ?_
          refine x_iloadn hP 627 3 dL_law_626 rfl rfl mm3 ?_
          refine x_iconst hP 628 dL_law_627 rfl ?_
          refine x_iadd hP 629 dL_law_628 rfl ?_
          refine x_xald hP 630 dL_law_629 rfl hL (by omega) ⟨by omega, by omega⟩ ?_
          rw [q7]
          refine x_ifc hP 633 637 (σ 0 (Int.toNat ((i : Int) + 2)) = 0) dL_law_630 rfl rfl (hxR _) rfl (fun hbr => ?_) (fun hbr => ?_)
          rotate_left
          · exact absurd hz hbr
          refine x_iconst hP 638 dL_law_637 rfl ?_
          refine x_cv (ci := 6) hP 641 [vI (σ 0 (Int.toNat ((i : Int) + 1))), vI 0] [vI r] dL_law_638 rfl hG.O_166 (by decide) rfl ml_RL_88 im_X6_write se_X6_write it_RX6 pp_X6_write bd_X6_write rfl rfl (by decide) (by simp [pC]) q2 ?_
          refine x_icmp hP 644 728 (r = r) dL_law_641 rfl rfl q3 q3 rfl (fun _ => ?_) (fun z => absurd rfl z)
          exact nxt σ2 w2 H2 s2 B2 I2 q4 q5 q6 (by rw [q8]; exact hS)
        · obtain ⟨r, σ1, σ2, w2, H2, s2, B2, I2, q1, q2, q3, q4, q5, q6, q7, q8⟩ := pc_write (a := σ 0 (Int.toNat ((i : Int) + 1))) (b := 1) hG h10 hT80 (hxR _) (by decide) σ w H s B I hok hc hM
          refine x_aloadn hP 598 1 dL_law_597 rfl rfl mm1 ?_
          refine x_aloadn hP 599 0 dL_law_598 rfl rfl mm0 ?_
          refine x_iloadn hP 600 3 dL_law_599 rfl rfl mm3 ?_
          refine x_iconst hP 601 dL_law_600 rfl ?_
          refine x_iadd hP 602 dL_law_601 rfl ?_
          refine x_xald hP 603 dL_law_602 rfl hL (by omega) ⟨by omega, by omega⟩ ?_
          refine x_aloadn hP 604 0 dL_law_603 rfl rfl mm0 ?_
          refine x_iloadn hP 605 3 dL_law_604 rfl rfl mm3 ?_
          refine x_iconst hP 606 dL_law_605 rfl ?_
          refine x_iadd hP 607 dL_law_606 rfl ?_
          refine x_xald hP 608 dL_law_607 rfl hL (by omega) ⟨by omega, by omega⟩ ?_
          refine x_ifc hP 611 615 (σ 0 (Int.toNat ((i : Int) + 2)) = 0) dL_law_608 rfl rfl (hxR _) rfl (fun hbr => ?_) (fun hbr => ?_)
          · exact absurd hbr hz
          refine x_iconst hP 612 dL_law_611 rfl ?_
          refine x_goto hP 616 dL_law_612 rfl ?_
          refine x_cv (ci := 5) hP 619 [vI (σ 0 (Int.toNat ((i : Int) + 1))), vI 1] [] dL_law_616 rfl hG.O_1 (by decide) rfl ml_RL_84 im_X5_write se_X5_write it_RX5 pp_X5_write bd_X5_write rfl rfl (by decide) (by simp [pC]) q1 ?_
          refine x_aloadn hP 620 2 dL_law_619 rfl rfl mm2 ?_
          refine x_aloadn hP 621 0 dL_law_620 rfl rfl mm0 ?_
          refine x_iloadn hP 622 3 dL_law_621 rfl rfl mm3 ?_
          refine x_iconst hP 623 dL_law_622 rfl ?_
          refine x_iadd hP 624 dL_law_623 rfl ?_
          refine x_xald hP 625 dL_law_624 rfl hL (by omega) ⟨by omega, by omega⟩ ?_
          refine x_aloadn hP 626 0 dL_law_625 rfl rfl mm0 ?_
          refine x_iloadn hP 627 3 dL_law_626 rfl rfl mm3 ?_
          refine x_iconst hP 628 dL_law_627 rfl ?_
          refine x_iadd hP 629 dL_law_628 rfl ?_
          refine x_xald hP 630 dL_law_629 rfl hL (by omega) ⟨by omega, by omega⟩ ?_
          rw [q7]
          refine x_ifc hP 633 637 (σ 0 (Int.toNat ((i : Int) + 2)) = 0) dL_law_630 rfl rfl (hxR _) rfl (fun hbr => ?_) (fun hbr => ?_)
          · exact absurd hbr hz
          refine x_iconst hP 634 dL_law_633 rfl ?_
          refine x_goto hP 638 dL_law_634 rfl ?_
          refine x_cv (ci := 6) hP 641 [vI (σ 0 (Int.toNat ((i : Int) + 1))), vI 1] [vI r] dL_law_638 rfl hG.O_166 (by decide) rfl ml_RL_88 im_X6_write se_X6_write it_RX6 pp_X6_write bd_X6_write rfl rfl (by decide) (by simp [pC]) q2 ?_
          refine x_icmp hP 644 728 (r = r) dL_law_641 rfl rfl q3 q3 rfl (fun _ => ?_) (fun z => absurd rfl z)
          exact nxt σ2 w2 H2 s2 B2 I2 q4 q5 q6 (by rw [q8]; exact hS)
      · refine ⟨614, 646, by rw [e]; rfl, rfl, ?_⟩
        obtain ⟨r, σ1, σ2, w2, H2, s2, B2, I2, q1, q2, q3, q4, q5, q6, q7, q8⟩ := pc_tear hG h10 hT80 σ w H s B I hok hc hM
        refine x_aloadn hP 647 1 dL_law_646 rfl rfl mm1 ?_
        refine x_cv (ci := 5) hP 650 [] [] dL_law_647 rfl hG.O_1 (by decide) rfl ml_RL_89 im_X5_tear se_X5_tear it_RX5 pp_X5_tear bd_X5_tear rfl rfl (by decide) (by simp [pC]) q1 ?_
        refine x_aloadn hP 651 2 dL_law_650 rfl rfl mm2 ?_
        refine x_cv (ci := 6) hP 654 [] [vI r] dL_law_651 rfl hG.O_166 (by decide) rfl ml_RL_92 im_X6_tear se_X6_tear it_RX6 pp_X6_tear bd_X6_tear rfl rfl (by decide) (by simp [pC]) q2 ?_
        refine x_icmp hP 657 728 (r = r) dL_law_654 rfl rfl q3 q3 rfl (fun _ => ?_) (fun z => absurd rfl z)
        exact nxt σ2 w2 H2 s2 B2 I2 q4 q5 q6 (by rw [q8]; exact hS)
      · refine ⟨627, 659, by rw [e]; rfl, rfl, ?_⟩
        obtain ⟨r, σ1, σ2, w2, H2, s2, B2, I2, q1, q2, q3, q4, q5, q6, q7, q8⟩ := pc_seed (a := σ 0 (Int.toNat ((i : Int) + 1))) hG h10 hT80 (hxR _) σ w H s B I hok hc hM
        refine x_aloadn hP 660 1 dL_law_659 rfl rfl mm1 ?_
        refine x_aloadn hP 661 0 dL_law_660 rfl rfl mm0 ?_
        refine x_iloadn hP 662 3 dL_law_661 rfl rfl mm3 ?_
        refine x_iconst hP 663 dL_law_662 rfl ?_
        refine x_iadd hP 664 dL_law_663 rfl ?_
        refine x_xald hP 665 dL_law_664 rfl hL (by omega) ⟨by omega, by omega⟩ ?_
        refine x_cv (ci := 5) hP 668 [vI (σ 0 (Int.toNat ((i : Int) + 1)))] [] dL_law_665 rfl hG.O_1 (by decide) rfl ml_RL_93 im_X5_seed se_X5_seed it_RX5 pp_X5_seed bd_X5_seed rfl rfl (by decide) (by simp [pC]) q1 ?_
        refine x_aloadn hP 669 2 dL_law_668 rfl rfl mm2 ?_
        refine x_aloadn hP 670 0 dL_law_669 rfl rfl mm0 ?_
        refine x_iloadn hP 671 3 dL_law_670 rfl rfl mm3 ?_
        refine x_iconst hP 672 dL_law_671 rfl ?_
        refine x_iadd hP 673 dL_law_672 rfl ?_
        refine x_xald hP 674 dL_law_673 rfl hL (by omega) ⟨by omega, by omega⟩ ?_
        rw [q7]
        refine x_cv (ci := 6) hP 677 [vI (σ 0 (Int.toNat ((i : Int) + 1)))] [vI r] dL_law_674 rfl hG.O_166 (by decide) rfl ml_RL_96 im_X6_seed se_X6_seed it_RX6 pp_X6_seed bd_X6_seed rfl rfl (by decide) (by simp [pC]) q2 ?_
        refine x_icmp hP 680 728 (r = r) dL_law_677 rfl rfl q3 q3 rfl (fun _ => ?_) (fun z => absurd rfl z)
        exact nxt σ2 w2 H2 s2 B2 I2 q4 q5 q6 (by rw [q8]; exact hS)
      · refine ⟨650, 682, by rw [e]; rfl, rfl, ?_⟩
        obtain ⟨r, σ1, σ2, w2, H2, s2, B2, I2, q1, q2, q3, q4, q5, q6, q7, q8⟩ := pc_keep (a := σ 0 (Int.toNat ((i : Int) + 1))) hG h10 hT80 (hxR _) σ w H s B I hok hc hM
        refine x_aloadn hP 683 1 dL_law_682 rfl rfl mm1 ?_
        refine x_aloadn hP 684 0 dL_law_683 rfl rfl mm0 ?_
        refine x_iloadn hP 685 3 dL_law_684 rfl rfl mm3 ?_
        refine x_iconst hP 686 dL_law_685 rfl ?_
        refine x_iadd hP 687 dL_law_686 rfl ?_
        refine x_xald hP 688 dL_law_687 rfl hL (by omega) ⟨by omega, by omega⟩ ?_
        refine x_cv (ci := 5) hP 691 [vI (σ 0 (Int.toNat ((i : Int) + 1)))] [] dL_law_688 rfl hG.O_1 (by decide) rfl ml_RL_97 im_X5_keep se_X5_keep it_RX5 pp_X5_keep bd_X5_keep rfl rfl (by decide) (by simp [pC]) q1 ?_
        refine x_aloadn hP 692 2 dL_law_691 rfl rfl mm2 ?_
        refine x_aloadn hP 693 0 dL_law_692 rfl rfl mm0 ?_
        refine x_iloadn hP 694 3 dL_law_693 rfl rfl mm3 ?_
        refine x_iconst hP 695 dL_law_694 rfl ?_
        refine x_iadd hP 696 dL_law_695 rfl ?_
        refine x_xald hP 697 dL_law_696 rfl hL (by omega) ⟨by omega, by omega⟩ ?_
        rw [q7]
        refine x_cv (ci := 6) hP 700 [vI (σ 0 (Int.toNat ((i : Int) + 1)))] [vI r] dL_law_697 rfl hG.O_166 (by decide) rfl ml_RL_100 im_X6_keep se_X6_keep it_RX6 pp_X6_keep bd_X6_keep rfl rfl (by decide) (by simp [pC]) q2 ?_
        refine x_icmp hP 703 728 (r = r) dL_law_700 rfl rfl q3 q3 rfl (fun _ => ?_) (fun z => absurd rfl z)
        exact nxt σ2 w2 H2 s2 B2 I2 q4 q5 q6 (by rw [q8]; exact hS)
      · refine ⟨673, 705, by rw [e]; rfl, rfl, ?_⟩
        obtain ⟨r, σ1, σ2, w2, H2, s2, B2, I2, q1, q2, q3, q4, q5, q6, q7, q8⟩ := pc_goBack (a := σ 0 (Int.toNat ((i : Int) + 1))) hG h10 hT80 (hxR _) σ w H s B I hok hc hM
        refine x_aloadn hP 706 1 dL_law_705 rfl rfl mm1 ?_
        refine x_aloadn hP 707 0 dL_law_706 rfl rfl mm0 ?_
        refine x_iloadn hP 708 3 dL_law_707 rfl rfl mm3 ?_
        refine x_iconst hP 709 dL_law_708 rfl ?_
        refine x_iadd hP 710 dL_law_709 rfl ?_
        refine x_xald hP 711 dL_law_710 rfl hL (by omega) ⟨by omega, by omega⟩ ?_
        refine x_cv (ci := 5) hP 714 [vI (σ 0 (Int.toNat ((i : Int) + 1)))] [] dL_law_711 rfl hG.O_1 (by decide) rfl ml_RL_101 im_X5_goBack se_X5_goBack it_RX5 pp_X5_goBack bd_X5_goBack rfl rfl (by decide) (by simp [pC]) q1 ?_
        refine x_aloadn hP 715 2 dL_law_714 rfl rfl mm2 ?_
        refine x_aloadn hP 716 0 dL_law_715 rfl rfl mm0 ?_
        refine x_iloadn hP 717 3 dL_law_716 rfl rfl mm3 ?_
        refine x_iconst hP 718 dL_law_717 rfl ?_
        refine x_iadd hP 719 dL_law_718 rfl ?_
        refine x_xald hP 720 dL_law_719 rfl hL (by omega) ⟨by omega, by omega⟩ ?_
        rw [q7]
        refine x_cv (ci := 6) hP 723 [vI (σ 0 (Int.toNat ((i : Int) + 1)))] [vI r] dL_law_720 rfl hG.O_166 (by decide) rfl ml_RL_104 im_X6_goBack se_X6_goBack it_RX6 pp_X6_goBack bd_X6_goBack rfl rfl (by decide) (by simp [pC]) q2 ?_
        refine x_icmp hP 726 728 (r = r) dL_law_723 rfl rfl q3 q3 rfl (fun _ => ?_) (fun z => absurd rfl z)
        exact nxt σ2 w2 H2 s2 B2 I2 q4 q5 q6 (by rw [q8]; exact hS)
end Lw
