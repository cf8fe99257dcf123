/-! The law, whole -/
theorem pLaw_ok : pLaw := by
  intro L xs P hL hP0
  have hP : Clo (pCall 60) yL_law cL_law (some .boolean) 4 600000 7302250 (fun r _ _ => r = [vI 1]) P := hP0
  obtain ⟨k1, r1, s1, a1, g1, ⟨z1, z2, z3⟩, v1, v2, v3, v4, v5, v6, v7, v8⟩ := c_xini (d := 55) (kd := up1 (fun _ => (11, L)) 1 (5, 0)) (rf := up1 (fun _ _ => none) 1 (fun _ => none)) (σ := up1 (sS xs) 1 (fun _ => 0)) (by simp [up1]) (by simp [up1])
  have gm : gC (166, up1 k1 166 (6, 0), up1 r1 166 (fun _ => none)) := g1.tr (Nat.le_refl _) (fun x hx => by
    have : ¬ x = 166 := by omega
    simp [up1, this]) (fun x hx => by
    have : ¬ x = 166 := by omega
    simp [up1, this])
  obtain ⟨k2, r2, s2, b1, hG, kf, sf, m1, m2, m3, m4, m5⟩ := c_mini (d := 58) (kd := up1 k1 166 (6, 0)) (rf := up1 r1 166 (fun _ => none)) (σ := up1 s1 166 (fun _ => 0)) gm (by simp [up1]) (by simp [up1])
  have sl : ∀ x, x < 166 → s2 x = s1 x := fun x hx => by
    rw [sf x hx]
    have : ¬ x = 166 := by omega
    simp [up1, this]
  have hL0 : gA (175, k2, r2) 0 11 L := ⟨show 0 < 175 by omega, by
    show k2 0 = _
    rw [kf 0 (by omega)]
    have : up1 k1 166 (6, 0) 0 = k1 0 := by simp [up1]
    rw [this, z1]
    simp [up1]⟩
  have hS : s2 0 = fun j => (xs j).toInt := by
    rw [sl 0 (by omega), z3]
    rfl
  have w0ok : wOK 10000 w0 := by
    refine ⟨by decide, by decide, by decide, by decide, by decide, by decide, by decide, by decide, fun k hk => ?_, fun c hc => ?_, fun c hc => Or.inl ?_⟩
    · have e4 : w0 4 k = 0 := rfl
      have e5 : w0 5 k = 0 := rfl
      rw [e4, e5]; decide
    · have e : w0 1 c = 1 := by simp [w0, rai, fW, hc]
      rw [e]; decide
    · simp [w0, rai, fW, hc]
  have hok : aOK (10000 + 60 * ((0 : Nat) : Int)) w0 (0, fun _ => w0) 0 (0, (fun _ => 0), (fun _ => 0)) ((fun _ => 0), (fun _ => 0), (fun _ => w0)) := by
    refine ⟨⟨w0ok.le (by omega), rai_S⟩, ⟨Nat.zero_le 20, fun i hi => absurd (show i < 0 from hi) (by omega)⟩, by decide, ⟨Nat.zero_le 20, fun i hi => absurd (show i < 0 from hi) (by omega)⟩, fun i hi => ⟨Or.inl rfl, fun z => absurd (show (0 : Int) = 1 from z) (by decide)⟩⟩
  have hc : CI s2 w0 (0, fun _ => w0) 0 (0, (fun _ => 0), (fun _ => 0)) ((fun _ => 0), (fun _ => 0), (fun _ => w0)) := by
    refine ⟨?_, by rw [sl 1 (by omega)]; exact v2, Or.inl (by rw [sl 1 (by omega)]; exact v3), ⟨by rw [sl 26 (by omega)]; exact v4, 0, by decide, by rw [sl 26 (by omega)]; exact v5, fun i hi => absurd (show i < 0 from hi) (by omega)⟩, ⟨by rw [sl 148 (by omega)]; exact v6, fun i hi => absurd (show i < 0 from hi) (by omega)⟩, fun i hi => ⟨?_, fun z => absurd (show (0 : Int) = 1 from z) (by decide)⟩⟩
    · rw [← v1]
      exact cv_ne (fun f hf => sl _ (by omega))
    · rw [sl _ (by omega)]
      rcases (show i = 0 ∨ i = 1 by omega) with rfl | rfl
      · exact v7
      · exact v8
  have hM : MI s2 w0 (0, fun _ => w0) 0 (0, (fun _ => 0), (fun _ => 0)) ((fun _ => 0), (fun _ => 0), (fun _ => w0)) :=
    ⟨m1, m3, ⟨m2, fun i hi => absurd (show i < 0 from hi) (by omega)⟩, ⟨m4, fun i hi => absurd (show i < 0 from hi) (by omega)⟩, fun i hi => ⟨by rw [m5], fun z => absurd (show (0 : Int) = 1 from z) (by decide)⟩⟩
  have h18 := lw_loop (xs := xs) hL hP hG hL0 513 0 0 s2 w0 _ _ _ _ rfl rfl hok hc hM hS
  show P 0 [(0, vR (some 0))] [] (1, (fun _ => (11, L)), (fun _ _ => none)) (sS xs) 0 0
  refine x_newo hP 3 2 5 dL_law_0 rfl rfl rfl (by decide) cl_RL_7 iz_RX5 it_RX5 (by decide) ?_
  refine x_dup hP 4 dL_law_3 rfl rfl ?_
  refine x_ci hP 7 dL_law_4 rfl ml_RL_9 im_X5_init it_RX5 rfl pp_X5_init bd_X5_init (by decide) (by simp [pC]) a1 ?_
  refine x_astoren hP 8 1 [(0, vR (some 0)), (1, vR (some 1))] dL_law_7 rfl rfl (by decide) rfl rfl ?_
  refine x_newo hP 11 167 6 dL_law_8 rfl rfl rfl (by decide) cl_RL_10 iz_RX6 it_RX6 (by decide) ?_
  refine x_dup hP 12 dL_law_11 rfl rfl ?_
  refine x_ci hP 15 dL_law_12 rfl ml_RL_12 im_X6_init it_RX6 rfl pp_X6_init bd_X6_init (by decide) (by simp [pC]) b1 ?_
  refine x_astoren hP 16 2 [(0, vR (some 0)), (1, vR (some 1)), (2, vR (some 166))] dL_law_15 rfl rfl (by decide) rfl rfl ?_
  refine x_iconst hP 17 dL_law_16 rfl ?_
  refine x_istoren hP 18 3 [(0, vR (some 0)), (1, vR (some 1)), (2, vR (some 166)), (3, vI 0)] dL_law_17 rfl rfl (by decide) rfl rfl ?_
  exact h18
