/-! The model's constructor -/
section I4
variable {d : Nat} {kd kd2 : Nat → Nat × Nat} {rf rf2 : Nat → Nat → Option Nat} {σ : pM}
theorem w0_m : up2 (up2 (up2 (rai (fun _ _ => 0) 3 2) 0 4 6) 0 5 3) 0 6 1 = w0 := by
  funext f j
  unfold w0 rai fW up2
  by_cases hf : f = 0
  · subst hf
    by_cases h4 : j = 4
    · subst h4; rfl
    · by_cases h5 : j = 5
      · subst h5; rfl
      · by_cases h6 : j = 6
        · subst h6; rfl
        · simp [h4, h5, h6]
  · simp [hf]
theorem c_mini (hC : gC (166, kd, rf)) (hk : (kd 166).1 = 6) (hz : σ 166 = fun _ => 0) : ∃ kd2 rf2 σ2, Ca (d + 2) yX6_init [vR (some 166)] (167, kd, rf) σ [] (175, kd2, rf2) σ2 ∧ gAll (175, kd2, rf2) ∧ (∀ x, x < 166 → kd2 x = kd x) ∧ (∀ x, x < 166 → σ2 x = σ x) ∧ (mv σ2 0 = w0 ∧ σ2 166 3 = 0 ∧ σ2 166 4 = 0 ∧ σ2 166 5 = 0 ∧ σ2 169 = fun _ => 0) := by
  let kd2 : Nat → Nat × Nat := up1 (up1 (up1 (up1 (up1 (up1 (up1 (up1 kd 167 (7, 1300)) 168 (7, 2)) 169 (8, 2)) 170 (7, 20)) 171 (8, 20)) 172 (7, 9)) 173 (7, 10)) 174 (7, 10)
  let rf2 : Nat → Nat → Option Nat := up2 (up1 (up2 (up1 (up2 (up1 (up2 (up1 (up2 (up1 (up2 (up1 (up2 (up1 (up2 (up1 rf 167 (fun _ => none)) 166 0 (some 167)) 168 (fun _ => none)) 166 1 (some 168)) 169 (fun _ => none)) 166 2 (some 169)) 170 (fun _ => none)) 166 6 (some 170)) 171 (fun _ => none)) 166 7 (some 171)) 172 (fun _ => none)) 166 11 (some 172)) 173 (fun _ => none)) 166 12 (some 173)) 174 (fun _ => none)) 166 13 (some 174)
  let s1 : pM := up1 (up1 (up1 (up1 (up1 (up1 (up1 (up1 σ 167 (fun _ => 0)) 168 (fun _ => 0)) 169 (fun _ => 0)) 170 (fun _ => 0)) 171 (fun _ => 0)) 172 (fun _ => 0)) 173 (fun _ => 0)) 174 (fun _ => 0)
  have ek : kd2 = up1 (up1 (up1 (up1 (up1 (up1 (up1 (up1 kd 167 (7, 1300)) 168 (7, 2)) 169 (8, 2)) 170 (7, 20)) 171 (8, 20)) 172 (7, 9)) 173 (7, 10)) 174 (7, 10) := rfl
  have er : rf2 = up2 (up1 (up2 (up1 (up2 (up1 (up2 (up1 (up2 (up1 (up2 (up1 (up2 (up1 (up2 (up1 rf 167 (fun _ => none)) 166 0 (some 167)) 168 (fun _ => none)) 166 1 (some 168)) 169 (fun _ => none)) 166 2 (some 169)) 170 (fun _ => none)) 166 6 (some 170)) 171 (fun _ => none)) 166 7 (some 171)) 172 (fun _ => none)) 166 11 (some 172)) 173 (fun _ => none)) 166 12 (some 173)) 174 (fun _ => none)) 166 13 (some 174) := rfl
  have es : s1 = up1 (up1 (up1 (up1 (up1 (up1 (up1 (up1 σ 167 (fun _ => 0)) 168 (fun _ => 0)) 169 (fun _ => 0)) 170 (fun _ => 0)) 171 (fun _ => 0)) 172 (fun _ => 0)) 173 (fun _ => 0)) 174 (fun _ => 0) := rfl
  have kf : ∀ x, x < 167 → kd2 x = kd x := fun x hx => by
    rw [ek]
    have n167 : ¬ x = 167 := by omega
    have n168 : ¬ x = 168 := by omega
    have n169 : ¬ x = 169 := by omega
    have n170 : ¬ x = 170 := by omega
    have n171 : ¬ x = 171 := by omega
    have n172 : ¬ x = 172 := by omega
    have n173 : ¬ x = 173 := by omega
    have n174 : ¬ x = 174 := by omega
    simp [up1, n167, n168, n169, n170, n171, n172, n173, n174]
  have rff : ∀ x, x < 166 → rf2 x = rf x := fun x hx => by
    rw [er]
    funext j
    have n166 : ¬ x = 166 := by omega
    have n167 : ¬ x = 167 := by omega
    have n168 : ¬ x = 168 := by omega
    have n169 : ¬ x = 169 := by omega
    have n170 : ¬ x = 170 := by omega
    have n171 : ¬ x = 171 := by omega
    have n172 : ¬ x = 172 := by omega
    have n173 : ¬ x = 173 := by omega
    have n174 : ¬ x = 174 := by omega
    simp [up1, up2, n166, n167, n168, n169, n170, n171, n172, n173, n174]
  have sf : ∀ x, x < 167 → s1 x = σ x := fun x hx => by
    rw [es]
    have n167 : ¬ x = 167 := by omega
    have n168 : ¬ x = 168 := by omega
    have n169 : ¬ x = 169 := by omega
    have n170 : ¬ x = 170 := by omega
    have n171 : ¬ x = 171 := by omega
    have n172 : ¬ x = 172 := by omega
    have n173 : ¬ x = 173 := by omega
    have n174 : ¬ x = 174 := by omega
    simp [up1, n167, n168, n169, n170, n171, n172, n173, n174]
  have hG : gAll (175, kd2, rf2) := by
    obtain ⟨h0, h1, h2, h3, h4, h5, h6, h7, h8, h9, h10, h11, h12, h13, h14, h15, h16, h17, h18, h19, h20, h21, h22, h23, h24, h25, h26, h27, h28, h29⟩ := hC.tr (m2 := 175) (kd2 := kd2) (rf2 := rf2) (by omega) (fun x hx => kf x (by omega)) rff
    refine ⟨h0, h1, h2, h3, h4, h5, h6, h7, h8, h9, h10, h11, h12, h13, h14, h15, h16, h17, h18, h19, h20, h21, h22, h23, h24, h25, h26, h27, h28, h29, ⟨show 166 < 175 by omega, by show (kd2 166).1 = 6; rw [kf 166 (by omega)]; exact hk⟩, ?_, ⟨show 167 < 175 by omega, ?_⟩, ?_, ⟨show 168 < 175 by omega, ?_⟩, ?_, ⟨show 169 < 175 by omega, ?_⟩, ?_, ⟨show 170 < 175 by omega, ?_⟩, ?_, ⟨show 171 < 175 by omega, ?_⟩, ?_, ⟨show 172 < 175 by omega, ?_⟩, ?_, ⟨show 173 < 175 by omega, ?_⟩, ?_, ⟨show 174 < 175 by omega, ?_⟩⟩
    · show rf2 166 0 = some 167
      rw [er]
      simp [up1, up2]
    · show kd2 167 = (7, 1300)
      rw [ek]
      simp [up1]
    · show rf2 166 1 = some 168
      rw [er]
      simp [up1, up2]
    · show kd2 168 = (7, 2)
      rw [ek]
      simp [up1]
    · show rf2 166 2 = some 169
      rw [er]
      simp [up1, up2]
    · show kd2 169 = (8, 2)
      rw [ek]
      simp [up1]
    · show rf2 166 6 = some 170
      rw [er]
      simp [up1, up2]
    · show kd2 170 = (7, 20)
      rw [ek]
      simp [up1]
    · show rf2 166 7 = some 171
      rw [er]
      simp [up1, up2]
    · show kd2 171 = (8, 20)
      rw [ek]
      simp [up1]
    · show rf2 166 11 = some 172
      rw [er]
      simp [up1, up2]
    · show kd2 172 = (7, 9)
      rw [ek]
      simp [up1]
    · show rf2 166 12 = some 173
      rw [er]
      simp [up1, up2]
    · show kd2 173 = (7, 10)
      rw [ek]
      simp [up1]
    · show rf2 166 13 = some 174
      rw [er]
      simp [up1, up2]
    · show kd2 174 = (7, 10)
      rw [ek]
      simp [up1]
  obtain ⟨s2, b1, b2', b3⟩ := c_mbuilds (d := d) (σ := s1) (a := 3) (b := 2) hG
  have m0 : mv s1 0 = fun _ _ => 0 := by
    have e167 : ∀ i, s1 167 i = 0 := fun i => by
      rw [es]
      simp [up1]
    funext f j
    unfold mv
    simp [e167]
  rw [m0] at b2'
  have hm : mv (up2 (up2 (up2 s2 167 4 6) 167 5 3) 167 6 1) 0 = w0 := by
    rw [← w0_m, ← b2']
    have u4 := mv_up0 (σ := s2) (r := 0) (i := 4) (j := 4) (v := 6) (by omega)
    have u5 := mv_up0 (σ := up2 s2 167 4 6) (r := 0) (i := 5) (j := 5) (v := 3) (by omega)
    have u6 := mv_up0 (σ := up2 (up2 s2 167 4 6) 167 5 3) (r := 0) (i := 6) (j := 6) (v := 1) (by omega)
    rw [Nat.zero_add] at u4 u5 u6
    rw [u6, u5, u4]
  have x3 : ∀ x, x ≠ 167 → (up2 (up2 (up2 s2 167 4 6) 167 5 3) 167 6 1) x = s1 x := fun x hx => by rw [up2_ne hx, up2_ne hx, up2_ne hx, b3.1 x hx]
  refine ⟨kd2, rf2, up2 (up2 (up2 s2 167 4 6) 167 5 3) 167 6 1, ca_in2 cd_X6_init bd_X6_init rfl (by decide) (Nat.le_of_ble_eq_true rfl) (fun Q P hP hQ => ?_), hG, fun x hx => kf x (by omega), fun x hx => by rw [x3 x (by omega), sf x (by omega)], hm, by rw [x3 166 (by decide), sf 166 (by omega), hz], by rw [x3 166 (by decide), sf 166 (by omega), hz], by rw [x3 166 (by decide), sf 166 (by omega), hz], by rw [x3 169 (by decide), es]; simp [up1]⟩
  show P 0 [(0, vR (some 166))] [] _ _ 0 0
  refine x_aloadn hP 1 0 dX6_init_0 rfl rfl mm0 ?_
  refine x_oini hP 4 dX6_init_1 rfl ml_RX6_1 (by simp [pC]) ?_
  refine x_aloadn hP 5 0 dX6_init_4 rfl rfl mm0 ?_
  refine x_sipush hP 8 dX6_init_5 rfl (by decide) ?_
  refine x_newi hP 10 (168) 1300 dX6_init_8 rfl rfl (by decide) (by decide) ?_
  refine x_putr hP 13 dX6_init_10 rfl fl_RX6_7 ⟨show 166 < 168 by omega, by simp [up1, hk]⟩ (by decide) rfl rfl rfl rfl ?_
  refine x_aloadn hP 14 0 dX6_init_13 rfl rfl mm0 ?_
  refine x_iconst hP 15 dX6_init_14 rfl ?_
  refine x_newi hP 17 (169) 2 dX6_init_15 rfl rfl (by decide) (by decide) ?_
  refine x_putr hP 20 dX6_init_17 rfl fl_RX6_13 ⟨show 166 < 169 by omega, by simp [up1, hk]⟩ (by decide) rfl rfl rfl rfl ?_
  refine x_aloadn hP 21 0 dX6_init_20 rfl rfl mm0 ?_
  refine x_iconst hP 22 dX6_init_21 rfl ?_
  refine x_newz hP 24 (170) 2 dX6_init_22 rfl rfl (by decide) (by decide) ?_
  refine x_putr hP 27 dX6_init_24 rfl fl_RX6_16 ⟨show 166 < 170 by omega, by simp [up1, hk]⟩ (by decide) rfl rfl rfl rfl ?_
  refine x_aloadn hP 28 0 dX6_init_27 rfl rfl mm0 ?_
  refine x_bipush hP 30 dX6_init_28 rfl (by decide) ?_
  refine x_newi hP 32 (171) 20 dX6_init_30 rfl rfl (by decide) (by decide) ?_
  refine x_putr hP 35 dX6_init_32 rfl fl_RX6_20 ⟨show 166 < 171 by omega, by simp [up1, hk]⟩ (by decide) rfl rfl rfl rfl ?_
  refine x_aloadn hP 36 0 dX6_init_35 rfl rfl mm0 ?_
  refine x_bipush hP 38 dX6_init_36 rfl (by decide) ?_
  refine x_newz hP 40 (172) 20 dX6_init_38 rfl rfl (by decide) (by decide) ?_
  refine x_putr hP 43 dX6_init_40 rfl fl_RX6_23 ⟨show 166 < 172 by omega, by simp [up1, hk]⟩ (by decide) rfl rfl rfl rfl ?_
  refine x_aloadn hP 44 0 dX6_init_43 rfl rfl mm0 ?_
  refine x_bipush hP 46 dX6_init_44 rfl (by decide) ?_
  refine x_newi hP 48 (173) 9 dX6_init_46 rfl rfl (by decide) (by decide) ?_
  refine x_putr hP 51 dX6_init_48 rfl fl_RX6_26 ⟨show 166 < 173 by omega, by simp [up1, hk]⟩ (by decide) rfl rfl rfl rfl ?_
  refine x_aloadn hP 52 0 dX6_init_51 rfl rfl mm0 ?_
  refine x_bipush hP 54 dX6_init_52 rfl (by decide) ?_
  refine x_newi hP 56 (174) 10 dX6_init_54 rfl rfl (by decide) (by decide) ?_
  refine x_putr hP 59 dX6_init_56 rfl fl_RX6_29 ⟨show 166 < 174 by omega, by simp [up1, hk]⟩ (by decide) rfl rfl rfl rfl ?_
  refine x_aloadn hP 60 0 dX6_init_59 rfl rfl mm0 ?_
  refine x_bipush hP 62 dX6_init_60 rfl (by decide) ?_
  refine x_newi hP 64 (175) 10 dX6_init_62 rfl rfl (by decide) (by decide) ?_
  refine x_putr hP 67 dX6_init_64 rfl fl_RX6_32 ⟨show 166 < 175 by omega, by simp [up1, hk]⟩ (by decide) rfl rfl rfl rfl ?_
  refine x_aloadn hP 68 0 dX6_init_67 rfl rfl mm0 ?_
  refine x_iconst hP 69 dX6_init_68 rfl ?_
  refine x_iconst hP 70 dX6_init_69 rfl ?_
  refine x_cv (ci := 6) hP 73 [vI 3, vI 2] [] dX6_init_70 rfl ⟨show 166 < 175 by omega, by simp [up1, hk]⟩ (by decide) rfl ml_RX6_35 im_X6_builds se_X6_builds it_RX6 pp_X6_builds bd_X6_builds rfl rfl (by decide) (by simp [pC]) b1 ?_
  refine x_aloadn hP 74 0 dX6_init_73 rfl rfl mm0 ?_
  refine x_getr hP 77 167 dX6_init_74 rfl fl_RX6_7 hG.O_166 (by decide) rfl hG.R_166_0 ?_
  refine x_iconst hP 78 dX6_init_77 rfl ?_
  refine x_bipush hP 80 dX6_init_78 rfl (by decide) ?_
  refine x_iast hP 81 dX6_init_80 rfl hG.A_167 (by decide) (by decide) ?_
  refine x_aloadn hP 82 0 dX6_init_81 rfl rfl mm0 ?_
  refine x_getr hP 85 167 dX6_init_82 rfl fl_RX6_7 hG.O_166 (by decide) rfl hG.R_166_0 ?_
  refine x_iconst hP 86 dX6_init_85 rfl ?_
  refine x_iconst hP 87 dX6_init_86 rfl ?_
  refine x_iast hP 88 dX6_init_87 rfl hG.A_167 (by decide) (by decide) ?_
  refine x_aloadn hP 89 0 dX6_init_88 rfl rfl mm0 ?_
  refine x_getr hP 92 167 dX6_init_89 rfl fl_RX6_7 hG.O_166 (by decide) rfl hG.R_166_0 ?_
  refine x_bipush hP 94 dX6_init_92 rfl (by decide) ?_
  refine x_iconst hP 95 dX6_init_94 rfl ?_
  refine x_iast hP 96 dX6_init_95 rfl hG.A_167 (by decide) (by decide) ?_
  exact x_vret hP dX6_init_96 (by decide) hQ
end I4
