/-! Constructors, two -/
section I2
variable {d : Nat} {o m m2 : Nat} {kd kd2 : Nat → Nat × Nat} {rf rf2 : Nat → Nat → Option Nat} {σ : pM}
theorem c_pini (hk : (kd o).1 = 3) : ∃ kd2 rf2 σ2, Ca (d + 1) yX3_init [vR (some o)] (o + 1, kd, rf) σ [] (o + 6, kd2, rf2) σ2 ∧ gPl (o + 6, kd2, rf2) o ∧ (∀ x, x ≤ o → kd2 x = kd x) ∧ (∀ x, x < o → rf2 x = rf x) ∧ (∀ x, x < o → σ2 x = σ x) := by
  refine ⟨up1 (up1 (up1 (up1 (up1 kd (o + 1) (7, 9)) (o + 2) (7, 9)) (o + 3) (7, 9)) (o + 4) (7, 9)) (o + 5) (7, 28), up2 (up1 (up2 (up1 (up2 (up1 (up2 (up1 (up2 (up1 rf (o + 1) (fun _ => none)) o 13 (some (o + 1))) (o + 2) (fun _ => none)) o 14 (some (o + 2))) (o + 3) (fun _ => none)) o 15 (some (o + 3))) (o + 4) (fun _ => none)) o 16 (some (o + 4))) (o + 5) (fun _ => none)) o 17 (some (o + 5)), up1 (up1 (up1 (up1 (up1 σ (o + 1) (fun _ => 0)) (o + 2) (fun _ => 0)) (o + 3) (fun _ => 0)) (o + 4) (fun _ => 0)) (o + 5) (fun _ => 0), ca_in2 cd_X3_init bd_X3_init rfl (by decide) (Nat.le_of_ble_eq_true rfl) (fun Q P hP hQ => ?_), ?_, fun x hx => ?_, fun x hx => ?_, fun x hx => ?_⟩
  · show P 0 [(0, vR (some o))] [] _ _ 0 0
    refine x_aloadn hP 1 0 dX3_init_0 rfl rfl mm0 ?_
    refine x_oini hP 4 dX3_init_1 rfl ml_RX3_3 (by simp [pC]) ?_
    refine x_aloadn hP 5 0 dX3_init_4 rfl rfl mm0 ?_
    refine x_bipush hP 7 dX3_init_5 rfl (by decide) ?_
    refine x_newi hP 9 (o + 2) 9 dX3_init_7 rfl rfl (by decide) (by decide) ?_
    refine x_putr hP 12 dX3_init_9 rfl fl_RX3_9 ⟨show o < o + 2 by omega, by simp [up1, hk]⟩ (by decide) rfl rfl rfl rfl ?_
    refine x_aloadn hP 13 0 dX3_init_12 rfl rfl mm0 ?_
    refine x_bipush hP 15 dX3_init_13 rfl (by decide) ?_
    refine x_newi hP 17 (o + 3) 9 dX3_init_15 rfl rfl (by decide) (by decide) ?_
    refine x_putr hP 20 dX3_init_17 rfl fl_RX3_15 ⟨show o < o + 3 by omega, by simp [up1, hk]⟩ (by decide) rfl rfl rfl rfl ?_
    refine x_aloadn hP 21 0 dX3_init_20 rfl rfl mm0 ?_
    refine x_bipush hP 23 dX3_init_21 rfl (by decide) ?_
    refine x_newi hP 25 (o + 4) 9 dX3_init_23 rfl rfl (by decide) (by decide) ?_
    refine x_putr hP 28 dX3_init_25 rfl fl_RX3_18 ⟨show o < o + 4 by omega, by simp [up1, hk]⟩ (by decide) rfl rfl rfl rfl ?_
    refine x_aloadn hP 29 0 dX3_init_28 rfl rfl mm0 ?_
    refine x_bipush hP 31 dX3_init_29 rfl (by decide) ?_
    refine x_newi hP 33 (o + 5) 9 dX3_init_31 rfl rfl (by decide) (by decide) ?_
    refine x_putr hP 36 dX3_init_33 rfl fl_RX3_21 ⟨show o < o + 5 by omega, by simp [up1, hk]⟩ (by decide) rfl rfl rfl rfl ?_
    refine x_aloadn hP 37 0 dX3_init_36 rfl rfl mm0 ?_
    refine x_bipush hP 39 dX3_init_37 rfl (by decide) ?_
    refine x_newi hP 41 (o + 6) 28 dX3_init_39 rfl rfl (by decide) (by decide) ?_
    refine x_putr hP 44 dX3_init_41 rfl fl_RX3_24 ⟨show o < o + 6 by omega, by simp [up1, hk]⟩ (by decide) rfl rfl rfl rfl ?_
    exact x_vret hP dX3_init_44 (by decide) hQ
  · refine ⟨⟨show o < o + 6 by omega, ?_⟩, ⟨show o + 1 < o + 6 by omega, ?_⟩, ⟨show o + 2 < o + 6 by omega, ?_⟩, ⟨show o + 3 < o + 6 by omega, ?_⟩, ⟨show o + 4 < o + 6 by omega, ?_⟩, ⟨show o + 5 < o + 6 by omega, ?_⟩, ?_, ?_, ?_, ?_, ?_⟩ <;> simp [gR, up1, up2, hk]
  · have n1 : ¬ x = o + 1 := by omega
    have n2 : ¬ x = o + 2 := by omega
    have n3 : ¬ x = o + 3 := by omega
    have n4 : ¬ x = o + 4 := by omega
    have n5 : ¬ x = o + 5 := by omega
    simp [up1, n1, n2, n3, n4, n5]
  · funext j
    have n0 : ¬ x = o := by omega
    have n1 : ¬ x = o + 1 := by omega
    have n2 : ¬ x = o + 2 := by omega
    have n3 : ¬ x = o + 3 := by omega
    have n4 : ¬ x = o + 4 := by omega
    have n5 : ¬ x = o + 5 := by omega
    simp [up1, up2, n0, n1, n2, n3, n4, n5]
  · have n0 : ¬ x = o := by omega
    have n1 : ¬ x = o + 1 := by omega
    have n2 : ¬ x = o + 2 := by omega
    have n3 : ¬ x = o + 3 := by omega
    have n4 : ¬ x = o + 4 := by omega
    have n5 : ¬ x = o + 5 := by omega
    simp [up1, n0, n1, n2, n3, n4, n5]
theorem c_bini (hk : (kd o).1 = 0) : ∃ kd2 rf2 σ2, Ca (d + 1) yX0_init [vR (some o)] (o + 1, kd, rf) σ [] (o + 3, kd2, rf2) σ2 ∧ (kd2 (o + 1) = (7, 20) ∧ kd2 (o + 2) = (8, 20) ∧ rf2 o 1 = some (o + 1) ∧ rf2 o 2 = some (o + 2)) ∧ (∀ x, x ≤ o → kd2 x = kd x) ∧ (∀ x, x < o → rf2 x = rf x) ∧ (∀ x, x ≤ o → σ2 x = σ x) := by
  refine ⟨up1 (up1 kd (o + 1) (7, 20)) (o + 2) (8, 20), up2 (up1 (up2 (up1 rf (o + 1) (fun _ => none)) o 1 (some (o + 1))) (o + 2) (fun _ => none)) o 2 (some (o + 2)), up1 (up1 σ (o + 1) (fun _ => 0)) (o + 2) (fun _ => 0), ca_in2 cd_X0_init bd_X0_init rfl (by decide) (Nat.le_of_ble_eq_true rfl) (fun Q P hP hQ => ?_), ?_, fun x hx => ?_, fun x hx => ?_, fun x hx => ?_⟩
  · show P 0 [(0, vR (some o))] [] _ _ 0 0
    refine x_aloadn hP 1 0 dX0_init_0 rfl rfl mm0 ?_
    refine x_oini hP 4 dX0_init_1 rfl ml_RX0_3 (by simp [pC]) ?_
    refine x_aloadn hP 5 0 dX0_init_4 rfl rfl mm0 ?_
    refine x_bipush hP 7 dX0_init_5 rfl (by decide) ?_
    refine x_newi hP 9 (o + 2) 20 dX0_init_7 rfl rfl (by decide) (by decide) ?_
    refine x_putr hP 12 dX0_init_9 rfl fl_RX0_9 ⟨show o < o + 2 by omega, by simp [up1, hk]⟩ (by decide) rfl rfl rfl rfl ?_
    refine x_aloadn hP 13 0 dX0_init_12 rfl rfl mm0 ?_
    refine x_bipush hP 15 dX0_init_13 rfl (by decide) ?_
    refine x_newz hP 17 (o + 3) 20 dX0_init_15 rfl rfl (by decide) (by decide) ?_
    refine x_putr hP 20 dX0_init_17 rfl fl_RX0_15 ⟨show o < o + 3 by omega, by simp [up1, hk]⟩ (by decide) rfl rfl rfl rfl ?_
    exact x_vret hP dX0_init_20 (by decide) hQ
  · simp [up1, up2]
  · have n1 : ¬ x = o + 1 := by omega
    have n2 : ¬ x = o + 2 := by omega
    simp [up1, n1, n2]
  · funext j
    have n0 : ¬ x = o := by omega
    have n1 : ¬ x = o + 1 := by omega
    have n2 : ¬ x = o + 2 := by omega
    simp [up1, up2, n0, n1, n2]
  · have n1 : ¬ x = o + 1 := by omega
    have n2 : ¬ x = o + 2 := by omega
    simp [up1, n1, n2]
theorem c_iini (hk : (kd o).1 = 2) : ∃ kd2 rf2 σ2, Ca (d + 4) yX2_init [vR (some o)] (o + 1, kd, rf) σ [] (o + 7, kd2, rf2) σ2 ∧ (rf2 o 2 = some (o + 1) ∧ gWl (o + 7, kd2, rf2) (o + 1)) ∧ (∀ x, x ≤ o → kd2 x = kd x) ∧ (∀ x, x < o → rf2 x = rf x) ∧ cv σ2 (o + 1) = w0 ∧ (∀ x, x ≤ o → σ2 x = σ x) := by
  obtain ⟨k1, r1, s1, a1, a2, a3, a4, a5, a6⟩ := c_wini (d := d) (o := o + 1) (kd := up1 kd (o + 1) (4, 0)) (rf := up1 rf (o + 1) (fun _ => none)) (σ := up1 σ (o + 1) (fun _ => 0)) (by simp [up1]) (by simp [up1])
  have hk1 : (k1 o).1 = 2 := by rw [a3 o (by omega)]; simp [up1, hk]
  refine ⟨k1, up2 r1 o 2 (some (o + 1)), s1, ca_in2 cd_X2_init bd_X2_init rfl (by decide) (Nat.le_of_ble_eq_true rfl) (fun Q P hP hQ => ?_), ⟨by simp [up2], a2.tr (Nat.le_refl _) (fun x _ _ => rfl) (by funext j; simp [up2])⟩, fun x hx => ?_, fun x hx => ?_, a5, fun x hx => ?_⟩
  · show P 0 [(0, vR (some o))] [] _ _ 0 0
    refine x_aloadn hP 1 0 dX2_init_0 rfl rfl mm0 ?_
    refine x_oini hP 4 dX2_init_1 rfl ml_RX2_1 (by simp [pC]) ?_
    refine x_aloadn hP 5 0 dX2_init_4 rfl rfl mm0 ?_
    refine x_newo hP 8 (o + 2) 4 dX2_init_5 rfl rfl rfl (by decide) cl_RX2_7 iz_RX4 it_RX4 (by decide) ?_
    refine x_dup hP 9 dX2_init_8 rfl rfl ?_
    refine x_ci hP 12 dX2_init_9 rfl ml_RX2_9 im_X4_init it_RX4 rfl pp_X4_init bd_X4_init (by decide) (by simp [pC]) a1 ?_
    refine x_putr hP 15 dX2_init_12 rfl fl_RX2_10 ⟨show o < o + 7 by omega, by simp [up1, hk1]⟩ (by decide) rfl rfl rfl rfl ?_
    exact x_vret hP dX2_init_15 (by decide) hQ
  · rw [a3 x (by omega)]
    have n1 : ¬ x = o + 1 := by omega
    simp [up1, n1]
  · have n0 : ¬ x = o := by omega
    have n1 : ¬ x = o + 1 := by omega
    have : up2 r1 o 2 (some (o + 1)) x = r1 x := by funext j; simp [up2, n0]
    rw [this, a4 x (by omega)]
    simp [up1, n1]
  · rw [a6 x (by omega)]
    have n1 : ¬ x = o + 1 := by omega
    simp [up1, n1]
/-- i walls of the history stand -/
def hiI (o i : Nat) (kd0 : Nat → Nat × Nat) (rf0 : Nat → Nat → Option Nat) (σ0 : pM) (kd : Nat → Nat × Nat) (rf : Nat → Nat → Option Nat) (σ : pM) : Prop := ((kd (o + 1) = (10, 20) ∧ rf o 2 = some (o + 1)) ∧ (∀ j, j < i → rf (o + 1) j = some (o + 2 + 6 * j) ∧ gWl (o + 2 + 6 * i, kd, rf) (o + 2 + 6 * j))) ∧ (∀ x, x ≤ o → kd x = kd0 x) ∧ (∀ x, x < o → rf x = rf0 x) ∧ (∀ x, x ≤ o → σ x = σ0 x)
theorem c_hini (hk : (kd o).1 = 1) : ∃ kd2 rf2 σ2, Ca (d + 4) yX1_init [vR (some o)] (o + 1, kd, rf) σ [] (o + 122, kd2, rf2) σ2 ∧ hiI o 20 kd rf σ kd2 rf2 σ2 := by
  have loop : ∀ (q i : Nat) (k1 : Nat → Nat × Nat) (r1 : Nat → Nat → Option Nat) (s1 : pM), i + q = 20 → hiI o i kd rf σ k1 r1 s1 → ∃ kd2 rf2 σ2, hiI o 20 kd rf σ kd2 rf2 σ2 ∧ ∀ (Q : pQ) (P : pP), Clo (pCall (d + 3)) yX1_init cX1_init none 2 121 1180 Q P → Q [] (o + 122, kd2, rf2) σ2 → P 15 [(0, vR (some o)), (1, vI (i : Int))] [] (o + 2 + 6 * i, k1, r1) s1 (1 + 6 * i) (20 + 58 * i) := by
    intro q
    induction q with
    | zero =>
      intro i k1 r1 s1 hi hI
      obtain rfl : i = 20 := by omega
      refine ⟨k1, r1, s1, hI, fun Q P hP hQ => ?_⟩
      obtain ⟨⟨⟨b1, b2⟩, b3⟩, b4, b5, b6⟩ := hI
      have hO : gO (o + 2 + 6 * 20, k1, r1) o 1 := ⟨show o < o + 2 + 6 * 20 by omega, by show (k1 o).1 = 1; rw [b4 o (by omega)]; exact hk⟩
      have hA : gA (o + 2 + 6 * 20, k1, r1) (o + 1) 10 20 := ⟨show o + 1 < o + 2 + 6 * 20 by omega, b1⟩
      refine x_iloadn hP 16 1 dX1_init_15 rfl rfl mm1 ?_
      refine x_aloadn hP 17 0 dX1_init_16 rfl rfl mm0 ?_
      refine x_getr hP 20 (o + 1) dX1_init_17 rfl fl_RX1_11 hO (by decide) rfl b2 ?_
      refine x_alen hP 21 dX1_init_20 rfl hA (by simp [pArr]) ?_
      refine x_icmp hP 24 43 ((20 : Int) ≤ 20) dX1_init_21 rfl rfl (by decide) (by decide) rfl (fun _ => ?_) (fun z => absurd (by decide) z)
      exact x_vret hP dX1_init_43 (by decide) hQ
    | succ q ih =>
      intro i k1 r1 s1 hi hI
      obtain ⟨⟨⟨b1, b2⟩, b3⟩, b4, b5, b6⟩ := hI
      obtain ⟨k2, r2, s2, a1, a2, a3, a4, a5, a6⟩ := c_wini (d := d) (o := o + 2 + 6 * i) (kd := up1 k1 (o + 2 + 6 * i) (4, 0)) (rf := up1 r1 (o + 2 + 6 * i) (fun _ => none)) (σ := up1 s1 (o + 2 + 6 * i) (fun _ => 0)) (by simp [up1]) (by simp [up1])
      have kf : ∀ x, x < o + 2 + 6 * i → k2 x = k1 x := fun x hx => by
        rw [a3 x (by omega)]
        have : ¬ x = o + 2 + 6 * i := by omega
        simp [up1, this]
      have rf' : ∀ x, x < o + 2 + 6 * i → r2 x = r1 x := fun x hx => by
        rw [a4 x hx]
        have : ¬ x = o + 2 + 6 * i := by omega
        simp [up1, this]
      have sf : ∀ x, x < o + 2 + 6 * i → s2 x = s1 x := fun x hx => by
        rw [a6 x hx]
        have : ¬ x = o + 2 + 6 * i := by omega
        simp [up1, this]
      have hI2 : hiI o (i + 1) kd rf σ k2 (up2 r2 (o + 1) i (some (o + 2 + 6 * i))) s2 := by
        refine ⟨⟨⟨by rw [kf _ (by omega)]; exact b1, ?_⟩, fun j hj => ?_⟩, fun x hx => by rw [kf x (by omega)]; exact b4 x hx, fun x hx => ?_, fun x hx => by rw [sf x (by omega)]; exact b6 x hx⟩
        · have : up2 r2 (o + 1) i (some (o + 2 + 6 * i)) o 2 = r2 o 2 := by simp [up2]
          rw [this, rf' o (by omega)]; exact b2
        · by_cases hji : j = i
          · subst hji
            refine ⟨by simp [up2], ?_⟩
            rw [show o + 2 + 6 * (j + 1) = o + 2 + 6 * j + 6 by omega]
            have nj : ¬ o + 2 + 6 * j = o + 1 := by omega
            exact a2.tr (Nat.le_refl _) (fun _ _ _ => rfl) (by funext f; simp [up2, nj])
          · have hb := b3 j (by omega)
            refine ⟨?_, hb.2.tr (by omega) (fun x h1 h2 => kf x (by omega)) ?_⟩
            · have : up2 r2 (o + 1) i (some (o + 2 + 6 * i)) (o + 1) j = r2 (o + 1) j := by simp [up2, hji]
              rw [this, rf' _ (by omega)]; exact hb.1
            · have : up2 r2 (o + 1) i (some (o + 2 + 6 * i)) (o + 2 + 6 * j) = r2 (o + 2 + 6 * j) := by
                have : ¬ o + 2 + 6 * j = o + 1 := by omega
                funext f
                simp [up2, this]
              rw [this, rf' _ (by omega)]
        · have : up2 r2 (o + 1) i (some (o + 2 + 6 * i)) x = r2 x := by
            have : ¬ x = o + 1 := by omega
            funext f
            simp [up2, this]
          rw [this, rf' x (by omega)]; exact b5 x hx
      obtain ⟨kd2, rf2, σ2, c1', c2⟩ := ih (i + 1) k2 _ s2 (by omega) hI2
      refine ⟨kd2, rf2, σ2, c1', fun Q P hP hQ => ?_⟩
      have h15 := c2 Q P hP hQ
      have hO : gO (o + 2 + 6 * i, k1, r1) o 1 := ⟨show o < o + 2 + 6 * i by omega, by show (k1 o).1 = 1; rw [b4 o (by omega)]; exact hk⟩
      have hA : gA (o + 2 + 6 * i, k1, r1) (o + 1) 10 20 := ⟨show o + 1 < o + 2 + 6 * i by omega, b1⟩
      have hA2 : gA (o + 2 + 6 * i + 6, k2, r2) (o + 1) 10 20 := ⟨show o + 1 < o + 2 + 6 * i + 6 by omega, by show k2 (o + 1) = _; rw [kf _ (by omega)]; exact b1⟩
      refine x_iloadn hP 16 1 dX1_init_15 rfl rfl mm1 ?_
      refine x_aloadn hP 17 0 dX1_init_16 rfl rfl mm0 ?_
      refine x_getr hP 20 (o + 1) dX1_init_17 rfl fl_RX1_11 hO (by decide) rfl b2 ?_
      refine x_alen hP 21 dX1_init_20 rfl hA (by simp [pArr]) ?_
      refine x_icmp hP 24 43 ((20 : Int) ≤ (i : Int)) dX1_init_21 rfl rfl (rO (by omega) (by omega)) (by decide) rfl (fun z => absurd z (by omega)) (fun _ => ?_)
      refine x_aloadn hP 25 0 dX1_init_24 rfl rfl mm0 ?_
      refine x_getr hP 28 (o + 1) dX1_init_25 rfl fl_RX1_11 hO (by decide) rfl b2 ?_
      refine x_iloadn hP 29 1 dX1_init_28 rfl rfl mm1 ?_
      refine x_newo hP 32 (o + 2 + 6 * i + 1) 4 dX1_init_29 rfl rfl rfl (by decide) cl_RX1_9 iz_RX4 it_RX4 ⟨by omega, by show 20 + 58 * i + 13 ≤ 1180; omega⟩ ?_
      refine x_dup hP 33 dX1_init_32 rfl rfl ?_
      refine x_ci hP 36 dX1_init_33 rfl ml_RX1_17 im_X4_init it_RX4 rfl pp_X4_init bd_X4_init ⟨by omega, by show 20 + 58 * i + 13 + 45 ≤ 1180; omega⟩ (by simp [pC]) a1 ?_
      refine x_aast hP 37 dX1_init_36 rfl hA2 (by omega) (Or.inr ⟨rfl, a2.1.2⟩) (by decide) ⟨by omega, by omega⟩ ?_
      refine x_iinc hP 40 [(0, vR (some o)), (1, vI ((i : Int) + 1))] dX1_init_37 rfl mm1 (by decide) rfl rfl ?_
      refine x_goto hP 15 dX1_init_40 rfl ?_
      rw [Int.toNat_natCast]
      rw [show o + 2 + 6 * (i + 1) = o + 2 + 6 * i + 6 by omega, show 1 + 6 * (i + 1) = 1 + 6 * i + 1 + 5 by omega, show 20 + 58 * (i + 1) = 20 + 58 * i + 13 + 45 by omega] at h15
      exact h15
  obtain ⟨kd2, rf2, σ2, c1', c2⟩ := loop 20 0 (up1 kd (o + 1) (10, 20)) (up2 (up1 rf (o + 1) (fun _ => none)) o 2 (some (o + 1))) (up1 σ (o + 1) (fun _ => 0)) rfl (by
    refine ⟨⟨⟨by simp [up1], by simp [up2]⟩, fun j hj => by omega⟩, fun x hx => ?_, fun x hx => ?_, fun x hx => ?_⟩
    · have n1 : ¬ x = o + 1 := by omega
      simp [up1, n1]
    · have n0 : ¬ x = o := by omega
      have n1 : ¬ x = o + 1 := by omega
      funext f
      simp [up1, up2, n0, n1]
    · have n1 : ¬ x = o + 1 := by omega
      simp [up1, n1])
  refine ⟨kd2, rf2, σ2, ca_in2 cd_X1_init bd_X1_init rfl (by decide) (Nat.le_of_ble_eq_true rfl) (fun Q P hP hQ => ?_), c1'⟩
  have h15 := c2 Q P hP hQ
  show P 0 [(0, vR (some o))] [] _ _ 0 0
  refine x_aloadn hP 1 0 dX1_init_0 rfl rfl mm0 ?_
  refine x_oini hP 4 dX1_init_1 rfl ml_RX1_3 (by simp [pC]) ?_
  refine x_aloadn hP 5 0 dX1_init_4 rfl rfl mm0 ?_
  refine x_bipush hP 7 dX1_init_5 rfl (by decide) ?_
  refine x_newq hP 10 (o + 2) 20 10 dX1_init_7 rfl rfl (by decide) (by decide) cl_RX1_9 (by decide) ?_
  refine x_putr hP 13 dX1_init_10 rfl fl_RX1_11 ⟨show o < o + 2 by omega, by simp [up1, hk]⟩ (by decide) rfl rfl rfl rfl ?_
  refine x_iconst hP 14 dX1_init_13 rfl ?_
  refine x_istoren hP 15 1 [(0, vR (some o)), (1, vI 0)] dX1_init_14 rfl rfl (by decide) rfl rfl ?_
  exact h15
end I2
