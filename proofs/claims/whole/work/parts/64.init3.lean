/-! The class's constructor -/
def gC (g : pG) : Prop := gO g 1 5 ∧ gR g 1 0 2 ∧ gR g 1 1 8 ∧ gR g 1 2 14 ∧ gR g 1 3 20 ∧ gR g 1 4 26 ∧ gR g 1 5 148 ∧ gR g 1 6 151 ∧ gWl g 2 ∧ gWl g 8 ∧ gPl g 14 ∧ gPl g 20 ∧ gO g 26 1 ∧ gR g 26 2 27 ∧ gA g 27 10 20 ∧ (∀ j, j < 20 → gR g 27 j (28 + 6 * j) ∧ gWl g (28 + 6 * j)) ∧ gO g 148 0 ∧ gR g 148 1 149 ∧ gR g 148 2 150 ∧ gA g 149 7 20 ∧ gA g 150 8 20 ∧ gA g 151 9 2 ∧ gR g 151 0 152 ∧ gR g 151 1 159 ∧ gO g 152 2 ∧ gR g 152 2 153 ∧ gWl g 153 ∧ gO g 159 2 ∧ gR g 159 2 160 ∧ gWl g 160
section I3
variable {d : Nat} {m m2 : Nat} {kd kd2 : Nat → Nat × Nat} {rf rf2 : Nat → Nat → Option Nat} {σ : pM}
theorem gC.tr (h : gC (m, kd, rf)) (hm : m ≤ m2) (hk : ∀ x, x < 166 → kd2 x = kd x) (hr : ∀ x, x < 166 → rf2 x = rf x) : gC (m2, kd2, rf2) := by
  obtain ⟨h0, h1, h2, h3, h4, h5, h6, h7, h8, h9, h10, h11, h12, h13, h14, h15, h16, h17, h18, h19, h20, h21, h22, h23, h24, h25, h26, h27, h28, h29⟩ := h
  exact ⟨⟨Nat.lt_of_lt_of_le h0.1 hm, by show (kd2 1).1 = _; rw [hk 1 (by decide)]; exact h0.2⟩, by show rf2 1 0 = _; rw [hr 1 (by decide)]; exact h1, by show rf2 1 1 = _; rw [hr 1 (by decide)]; exact h2, by show rf2 1 2 = _; rw [hr 1 (by decide)]; exact h3, by show rf2 1 3 = _; rw [hr 1 (by decide)]; exact h4, by show rf2 1 4 = _; rw [hr 1 (by decide)]; exact h5, by show rf2 1 5 = _; rw [hr 1 (by decide)]; exact h6, by show rf2 1 6 = _; rw [hr 1 (by decide)]; exact h7, h8.tr hm (fun x q1 q2 => hk x (by omega)) (hr 2 (by decide)), h9.tr hm (fun x q1 q2 => hk x (by omega)) (hr 8 (by decide)), h10.tr hm (fun x q1 q2 => hk x (by omega)) (hr 14 (by decide)), h11.tr hm (fun x q1 q2 => hk x (by omega)) (hr 20 (by decide)), ⟨Nat.lt_of_lt_of_le h12.1 hm, by show (kd2 26).1 = _; rw [hk 26 (by decide)]; exact h12.2⟩, by show rf2 26 2 = _; rw [hr 26 (by decide)]; exact h13, ⟨Nat.lt_of_lt_of_le h14.1 hm, by show kd2 27 = _; rw [hk 27 (by decide)]; exact h14.2⟩, fun j hj => ⟨by show rf2 27 j = _; rw [hr 27 (by decide)]; exact (h15 j hj).1, (h15 j hj).2.tr hm (fun x q1 q2 => hk x (by omega)) (hr _ (by omega))⟩, ⟨Nat.lt_of_lt_of_le h16.1 hm, by show (kd2 148).1 = _; rw [hk 148 (by decide)]; exact h16.2⟩, by show rf2 148 1 = _; rw [hr 148 (by decide)]; exact h17, by show rf2 148 2 = _; rw [hr 148 (by decide)]; exact h18, ⟨Nat.lt_of_lt_of_le h19.1 hm, by show kd2 149 = _; rw [hk 149 (by decide)]; exact h19.2⟩, ⟨Nat.lt_of_lt_of_le h20.1 hm, by show kd2 150 = _; rw [hk 150 (by decide)]; exact h20.2⟩, ⟨Nat.lt_of_lt_of_le h21.1 hm, by show kd2 151 = _; rw [hk 151 (by decide)]; exact h21.2⟩, by show rf2 151 0 = _; rw [hr 151 (by decide)]; exact h22, by show rf2 151 1 = _; rw [hr 151 (by decide)]; exact h23, ⟨Nat.lt_of_lt_of_le h24.1 hm, by show (kd2 152).1 = _; rw [hk 152 (by decide)]; exact h24.2⟩, by show rf2 152 2 = _; rw [hr 152 (by decide)]; exact h25, h26.tr hm (fun x q1 q2 => hk x (by omega)) (hr 153 (by decide)), ⟨Nat.lt_of_lt_of_le h27.1 hm, by show (kd2 159).1 = _; rw [hk 159 (by decide)]; exact h27.2⟩, by show rf2 159 2 = _; rw [hr 159 (by decide)]; exact h28, h29.tr hm (fun x q1 q2 => hk x (by omega)) (hr 160 (by decide))⟩
theorem c_xini (hk : (kd 1).1 = 5) (hz : σ 1 = fun _ => 0) : ∃ kd2 rf2 σ2, Ca (d + 5) yX5_init [vR (some 1)] (2, kd, rf) σ [] (166, kd2, rf2) σ2 ∧ gC (166, kd2, rf2) ∧ (kd2 0 = kd 0 ∧ rf2 0 = rf 0 ∧ σ2 0 = σ 0) ∧ (cv σ2 2 = w0 ∧ σ2 1 7 = 0 ∧ σ2 1 8 = 0 ∧ σ2 26 0 = 0 ∧ σ2 26 1 = 0 ∧ σ2 148 0 = 0 ∧ σ2 152 0 = 0 ∧ σ2 159 0 = 0) := by
  -- the wall
  obtain ⟨k1, r1, s1, a1, w1, ka1, ra1, v1, sa1⟩ := c_wini (d := d + 1) (o := 2) (kd := up1 kd 2 (4, 0)) (rf := up1 rf 2 (fun _ => none)) (σ := up1 σ 2 (fun _ => 0)) (by simp [up1]) (by simp [up1])
  -- the trial
  obtain ⟨k2, r2, s2, a2, w2, ka2, ra2, v2, sa2⟩ := c_wini (d := d + 1) (o := 8) (kd := up1 k1 8 (4, 0)) (rf := up1 (up2 r1 1 0 (some 2)) 8 (fun _ => none)) (σ := up1 s1 8 (fun _ => 0)) (by simp [up1]) (by simp [up1])
  -- planner, tryout
  obtain ⟨k3, r3, s3, a3, w3, ka3, ra3, sa3⟩ := c_pini (d := d + 3) (o := 14) (kd := up1 k2 14 (3, 0)) (rf := up1 (up2 r2 1 1 (some 8)) 14 (fun _ => none)) (σ := up1 s2 14 (fun _ => 0)) (by simp [up1])
  obtain ⟨k4, r4, s4, a4, w4, ka4, ra4, sa4⟩ := c_pini (d := d + 3) (o := 20) (kd := up1 k3 20 (3, 0)) (rf := up1 (up2 r3 1 2 (some 14)) 20 (fun _ => none)) (σ := up1 s3 20 (fun _ => 0)) (by simp [up1])
  -- history
  obtain ⟨k5, r5, s5, a5, w5, ka5, ra5, sa5⟩ := c_hini (d := d) (o := 26) (kd := up1 k4 26 (1, 0)) (rf := up1 (up2 r4 1 3 (some 20)) 26 (fun _ => none)) (σ := up1 s4 26 (fun _ => 0)) (by simp [up1])
  -- book
  obtain ⟨k6, r6, s6, a6, w6, ka6, ra6, sa6⟩ := c_bini (d := d + 3) (o := 148) (kd := up1 k5 148 (0, 0)) (rf := up1 (up2 r5 1 4 (some 26)) 148 (fun _ => none)) (σ := up1 s5 148 (fun _ => 0)) (by simp [up1])
  -- images
  obtain ⟨k8, r8, s8, a8, w8, ka8, ra8, v8, sa8⟩ := c_iini (d := d) (o := 152) (kd := up1 (up1 k6 151 (9, 2)) 152 (2, 0)) (rf := up1 (up2 (up1 (up2 r6 1 5 (some 148)) 151 (fun _ => none)) 1 6 (some 151)) 152 (fun _ => none)) (σ := up1 (up1 s6 151 (fun _ => 0)) 152 (fun _ => 0)) (by simp [up1])
  obtain ⟨k9, r9, s9, a9, w9, ka9, ra9, v9, sa9⟩ := c_iini (d := d) (o := 159) (kd := up1 k8 159 (2, 0)) (rf := up1 (up2 r8 151 0 (some 152)) 159 (fun _ => none)) (σ := up1 s8 159 (fun _ => 0)) (by simp [up1])
  -- kinds, from stage to stage
  have K1 : ∀ x, x < 2 → k1 x = kd x := fun x hx => by
    rw [ka1 x (by omega)]
    have nn : ¬ x = 2 := by omega
    simp [up1, nn]
  have K2 : ∀ x, x < 8 → k2 x = k1 x := fun x hx => by
    rw [ka2 x (by omega)]
    have nn : ¬ x = 8 := by omega
    simp [up1, nn]
  have K3 : ∀ x, x < 14 → k3 x = k2 x := fun x hx => by
    rw [ka3 x (by omega)]
    have nn : ¬ x = 14 := by omega
    simp [up1, nn]
  have K4 : ∀ x, x < 20 → k4 x = k3 x := fun x hx => by
    rw [ka4 x (by omega)]
    have nn : ¬ x = 20 := by omega
    simp [up1, nn]
  have K5 : ∀ x, x < 26 → k5 x = k4 x := fun x hx => by
    rw [ka5 x (by omega)]
    have nn : ¬ x = 26 := by omega
    simp [up1, nn]
  have K6 : ∀ x, x < 148 → k6 x = k5 x := fun x hx => by
    rw [ka6 x (by omega)]
    have nn : ¬ x = 148 := by omega
    simp [up1, nn]
  have K8 : ∀ x, x < 151 → k8 x = k6 x := fun x hx => by
    rw [ka8 x (by omega)]
    have nn : ¬ x = 151 := by omega
    have nm : ¬ x = 152 := by omega
    simp [up1, nn, nm]
  have K8a : k8 151 = (9, 2) := by rw [ka8 151 (by omega)]; simp [up1]
  have K8b : (k8 152).1 = 2 := by rw [ka8 152 (by omega)]; simp [up1]
  have K9 : ∀ x, x < 159 → k9 x = k8 x := fun x hx => by
    rw [ka9 x (by omega)]
    have nn : ¬ x = 159 := by omega
    simp [up1, nn]
  have K9b : (k9 159).1 = 2 := by rw [ka9 159 (by omega)]; simp [up1]
  have R1 : ∀ x, x < 2 → r1 x = rf x := fun x hx => by
    rw [ra1 x (by omega)]
    have nn : ¬ x = 2 := by omega
    simp [up1, nn]
  have R2 : ∀ x, x < 8 → x ≠ 1 → r2 x = r1 x := fun x hx h1 => by
    rw [ra2 x (by omega)]
    have nn : ¬ x = 8 := by omega
    funext j
    simp [up1, up2, nn, h1]
  have Q2 : ∀ f, r2 1 f = if f = 0 then some 2 else r1 1 f := fun f => by
    rw [ra2 1 (by omega)]
    simp [up1, up2]
  have R3 : ∀ x, x < 14 → x ≠ 1 → r3 x = r2 x := fun x hx h1 => by
    rw [ra3 x (by omega)]
    have nn : ¬ x = 14 := by omega
    funext j
    simp [up1, up2, nn, h1]
  have Q3 : ∀ f, r3 1 f = if f = 1 then some 8 else r2 1 f := fun f => by
    rw [ra3 1 (by omega)]
    simp [up1, up2]
  have R4 : ∀ x, x < 20 → x ≠ 1 → r4 x = r3 x := fun x hx h1 => by
    rw [ra4 x (by omega)]
    have nn : ¬ x = 20 := by omega
    funext j
    simp [up1, up2, nn, h1]
  have Q4 : ∀ f, r4 1 f = if f = 2 then some 14 else r3 1 f := fun f => by
    rw [ra4 1 (by omega)]
    simp [up1, up2]
  have R5 : ∀ x, x < 26 → x ≠ 1 → r5 x = r4 x := fun x hx h1 => by
    rw [ra5 x (by omega)]
    have nn : ¬ x = 26 := by omega
    funext j
    simp [up1, up2, nn, h1]
  have Q5 : ∀ f, r5 1 f = if f = 3 then some 20 else r4 1 f := fun f => by
    rw [ra5 1 (by omega)]
    simp [up1, up2]
  have R6 : ∀ x, x < 148 → x ≠ 1 → r6 x = r5 x := fun x hx h1 => by
    rw [ra6 x (by omega)]
    have nn : ¬ x = 148 := by omega
    funext j
    simp [up1, up2, nn, h1]
  have Q6 : ∀ f, r6 1 f = if f = 4 then some 26 else r5 1 f := fun f => by
    rw [ra6 1 (by omega)]
    simp [up1, up2]
  have R8 : ∀ x, x < 151 → x ≠ 1 → r8 x = r6 x := fun x hx h1 => by
    rw [ra8 x (by omega)]
    have nn : ¬ x = 151 := by omega
    have nm : ¬ x = 152 := by omega
    funext j
    simp [up1, up2, nn, nm, h1]
  have Q8 : ∀ f, r8 1 f = if f = 6 then some 151 else if f = 5 then some 148 else r6 1 f := fun f => by
    rw [ra8 1 (by omega)]
    simp [up1, up2]
  have R9 : ∀ x, x < 159 → x ≠ 151 → r9 x = r8 x := fun x hx h1 => by
    rw [ra9 x (by omega)]
    have nn : ¬ x = 159 := by omega
    funext j
    simp [up1, up2, nn, h1]
  have R9a : r9 151 0 = some 152 := by rw [ra9 151 (by omega)]; simp [up1, up2]
  have S1 : ∀ x, x < 2 → s1 x = σ x := fun x hx => by
    rw [sa1 x (by omega)]
    have nn : ¬ x = 2 := by omega
    simp [up1, nn]
  have S2 : ∀ x, x < 8 → s2 x = s1 x := fun x hx => by
    rw [sa2 x (by omega)]
    have nn : ¬ x = 8 := by omega
    simp [up1, nn]
  have S3 : ∀ x, x < 14 → s3 x = s2 x := fun x hx => by
    rw [sa3 x (by omega)]
    have nn : ¬ x = 14 := by omega
    simp [up1, nn]
  have S4 : ∀ x, x < 20 → s4 x = s3 x := fun x hx => by
    rw [sa4 x (by omega)]
    have nn : ¬ x = 20 := by omega
    simp [up1, nn]
  have S5 : ∀ x, x < 26 → s5 x = s4 x := fun x hx => by
    rw [sa5 x (by omega)]
    have nn : ¬ x = 26 := by omega
    simp [up1, nn]
  have S5a : s5 26 = fun _ => 0 := by rw [sa5 26 (by omega)]; simp [up1]
  have S6 : ∀ x, x < 148 → s6 x = s5 x := fun x hx => by
    rw [sa6 x (by omega)]
    have nn : ¬ x = 148 := by omega
    simp [up1, nn]
  have S6a : s6 148 = fun _ => 0 := by rw [sa6 148 (by omega)]; simp [up1]
  have S8 : ∀ x, x < 151 → s8 x = s6 x := fun x hx => by
    rw [sa8 x (by omega)]
    have nn : ¬ x = 151 := by omega
    have nm : ¬ x = 152 := by omega
    simp [up1, nn, nm]
  have S8a : s8 152 = fun _ => 0 := by rw [sa8 152 (by omega)]; simp [up1]
  have S9 : ∀ x, x < 159 → s9 x = s8 x := fun x hx => by
    rw [sa9 x (by omega)]
    have nn : ¬ x = 159 := by omega
    simp [up1, nn]
  have S9a : s9 159 = fun _ => 0 := by rw [sa9 159 (by omega)]; simp [up1]
  have kf : ∀ x, x < 2 → k9 x = kd x := fun x hx => by rw [K9 x (by omega), K8 x (by omega), K6 x (by omega), K5 x (by omega), K4 x (by omega), K3 x (by omega), K2 x (by omega), K1 x hx]
  have sf : ∀ x, x < 2 → s9 x = σ x := fun x hx => by rw [S9 x (by omega), S8 x (by omega), S6 x (by omega), S5 x (by omega), S4 x (by omega), S3 x (by omega), S2 x (by omega), S1 x hx]
  have row1 : ∀ f, up2 r9 151 1 (some 159) 1 f = if f = 6 then some 151 else if f = 5 then some 148 else if f = 4 then some 26 else if f = 3 then some 20 else if f = 2 then some 14 else if f = 1 then some 8 else if f = 0 then some 2 else r1 1 f := fun f => by
    have e : up2 r9 151 1 (some 159) 1 f = r9 1 f := by simp [up2]
    rw [e, R9 1 (by omega) (by omega), Q8, Q6, Q5, Q4, Q3, Q2]
  have ne : ∀ x, x ≠ 151 → up2 r9 151 1 (some 159) x = r9 x := fun x hx => by
    funext j
    simp [up2, hx]
  have hk1 : (k1 1).1 = 5 := by rw [K1 1 (by omega)]; exact hk
  have hk2 : (k2 1).1 = 5 := by rw [K2 1 (by omega)]; exact hk1
  have hk3 : (k3 1).1 = 5 := by rw [K3 1 (by omega)]; exact hk2
  have hk4 : (k4 1).1 = 5 := by rw [K4 1 (by omega)]; exact hk3
  have hk5 : (k5 1).1 = 5 := by rw [K5 1 (by omega)]; exact hk4
  have hk6 : (k6 1).1 = 5 := by rw [K6 1 (by omega)]; exact hk5
  have hk8 : (k8 1).1 = 5 := by rw [K8 1 (by omega)]; exact hk6
  have hk9 : (k9 1).1 = 5 := by rw [K9 1 (by omega)]; exact hk8
  have c26 : ∀ x, 26 ≤ x → x < 148 → k9 x = k5 x := fun x h1 h2 => by rw [K9 x (by omega), K8 x (by omega), K6 x (by omega)]
  have d26 : ∀ x, 26 ≤ x → x < 148 → up2 r9 151 1 (some 159) x = r5 x := fun x h1 h2 => by rw [ne x (by omega), R9 x (by omega) (by omega), R8 x (by omega) (by omega), R6 x (by omega) (by omega)]
  have k26 : (k5 26).1 = 1 := by rw [ka5 26 (by omega)]; simp [up1]
  have k148 : (k6 148).1 = 0 := by rw [ka6 148 (by omega)]; simp [up1]
  have k12 : ∀ x, x < 8 → k9 x = k1 x := fun x hx => by rw [K9 x (by omega), K8 x (by omega), K6 x (by omega), K5 x (by omega), K4 x (by omega), K3 x (by omega), K2 x hx]
  have r12 : ∀ x, x < 8 → x ≠ 1 → up2 r9 151 1 (some 159) x = r1 x := fun x hx h1 => by rw [ne x (by omega), R9 x (by omega) (by omega), R8 x (by omega) h1, R6 x (by omega) h1, R5 x (by omega) h1, R4 x (by omega) h1, R3 x (by omega) h1, R2 x hx h1]
  have k22 : ∀ x, x < 14 → k9 x = k2 x := fun x hx => by rw [K9 x (by omega), K8 x (by omega), K6 x (by omega), K5 x (by omega), K4 x (by omega), K3 x hx]
  have r22 : ∀ x, x < 14 → x ≠ 1 → up2 r9 151 1 (some 159) x = r2 x := fun x hx h1 => by rw [ne x (by omega), R9 x (by omega) (by omega), R8 x (by omega) h1, R6 x (by omega) h1, R5 x (by omega) h1, R4 x (by omega) h1, R3 x hx h1]
  have k32 : ∀ x, x < 20 → k9 x = k3 x := fun x hx => by rw [K9 x (by omega), K8 x (by omega), K6 x (by omega), K5 x (by omega), K4 x hx]
  have r32 : ∀ x, x < 20 → x ≠ 1 → up2 r9 151 1 (some 159) x = r3 x := fun x hx h1 => by rw [ne x (by omega), R9 x (by omega) (by omega), R8 x (by omega) h1, R6 x (by omega) h1, R5 x (by omega) h1, R4 x hx h1]
  have k42 : ∀ x, x < 26 → k9 x = k4 x := fun x hx => by rw [K9 x (by omega), K8 x (by omega), K6 x (by omega), K5 x hx]
  have r42 : ∀ x, x < 26 → x ≠ 1 → up2 r9 151 1 (some 159) x = r4 x := fun x hx h1 => by rw [ne x (by omega), R9 x (by omega) (by omega), R8 x (by omega) h1, R6 x (by omega) h1, R5 x hx h1]
  have k62 : ∀ x, x < 151 → k9 x = k6 x := fun x hx => by rw [K9 x (by omega), K8 x hx]
  have r62 : ∀ x, x < 151 → x ≠ 1 → up2 r9 151 1 (some 159) x = r6 x := fun x hx h1 => by rw [ne x (by omega), R9 x (by omega) (by omega), R8 x hx h1]
  refine ⟨k9, up2 r9 151 1 (some 159), s9, ca_in2 cd_X5_init bd_X5_init rfl (by decide) (Nat.le_of_ble_eq_true rfl) (fun Q P hP hQ => ?_), ?_, ⟨kf 0 (by omega), ?_, sf 0 (by omega)⟩, ?_, by rw [sf 1 (by omega), hz], by rw [sf 1 (by omega), hz], ?_, ?_, ?_, ?_, by rw [S9a]⟩
  · show P 0 [(0, vR (some 1))] [] _ _ 0 0
    refine x_aloadn hP 1 0 dX5_init_0 rfl rfl mm0 ?_
    refine x_oini hP 4 dX5_init_1 rfl ml_RX5_1 (by simp [pC]) ?_
    refine x_aloadn hP 5 0 dX5_init_4 rfl rfl mm0 ?_
    refine x_newo hP 8 (3) 4 dX5_init_5 rfl rfl rfl (by decide) cl_RX5_7 iz_RX4 it_RX4 (by decide) ?_
    refine x_dup hP 9 dX5_init_8 rfl rfl ?_
    refine x_ci hP 12 dX5_init_9 rfl ml_RX5_9 im_X4_init it_RX4 rfl pp_X4_init bd_X4_init (by decide) (by simp [pC]) a1 ?_
    refine x_putr hP 15 dX5_init_12 rfl fl_RX5_10 ⟨show 1 < 8 by omega, by simp [up1, hk1]⟩ (by decide) rfl rfl rfl rfl ?_
    refine x_aloadn hP 16 0 dX5_init_15 rfl rfl mm0 ?_
    refine x_newo hP 19 (9) 4 dX5_init_16 rfl rfl rfl (by decide) cl_RX5_7 iz_RX4 it_RX4 (by decide) ?_
    refine x_dup hP 20 dX5_init_19 rfl rfl ?_
    refine x_ci hP 23 dX5_init_20 rfl ml_RX5_9 im_X4_init it_RX4 rfl pp_X4_init bd_X4_init (by decide) (by simp [pC]) a2 ?_
    refine x_putr hP 26 dX5_init_23 rfl fl_RX5_16 ⟨show 1 < 14 by omega, by simp [up1, hk2]⟩ (by decide) rfl rfl rfl rfl ?_
    refine x_aloadn hP 27 0 dX5_init_26 rfl rfl mm0 ?_
    refine x_newo hP 30 (15) 3 dX5_init_27 rfl rfl rfl (by decide) cl_RX5_19 iz_RX3 it_RX3 (by decide) ?_
    refine x_dup hP 31 dX5_init_30 rfl rfl ?_
    refine x_cin hP 34 dX5_init_31 rfl ml_RX5_21 im_X3_init it_RX3 rfl pp_X3_init bd_X3_init (by decide) (by simp [pC]) a3 ?_
    refine x_putr hP 37 dX5_init_34 rfl fl_RX5_22 ⟨show 1 < 20 by omega, by simp [up1, hk3]⟩ (by decide) rfl rfl rfl rfl ?_
    refine x_aloadn hP 38 0 dX5_init_37 rfl rfl mm0 ?_
    refine x_newo hP 41 (21) 3 dX5_init_38 rfl rfl rfl (by decide) cl_RX5_19 iz_RX3 it_RX3 (by decide) ?_
    refine x_dup hP 42 dX5_init_41 rfl rfl ?_
    refine x_cin hP 45 dX5_init_42 rfl ml_RX5_21 im_X3_init it_RX3 rfl pp_X3_init bd_X3_init (by decide) (by simp [pC]) a4 ?_
    refine x_putr hP 48 dX5_init_45 rfl fl_RX5_26 ⟨show 1 < 26 by omega, by simp [up1, hk4]⟩ (by decide) rfl rfl rfl rfl ?_
    refine x_aloadn hP 49 0 dX5_init_48 rfl rfl mm0 ?_
    refine x_newo hP 52 (27) 1 dX5_init_49 rfl rfl rfl (by decide) cl_RX5_29 iz_RX1 it_RX1 (by decide) ?_
    refine x_dup hP 53 dX5_init_52 rfl rfl ?_
    refine x_ci hP 56 dX5_init_53 rfl ml_RX5_31 im_X1_init it_RX1 rfl pp_X1_init bd_X1_init (by decide) (by simp [pC]) a5 ?_
    refine x_putr hP 59 dX5_init_56 rfl fl_RX5_32 ⟨show 1 < 148 by omega, by simp [up1, hk5]⟩ (by decide) rfl rfl rfl rfl ?_
    refine x_aloadn hP 60 0 dX5_init_59 rfl rfl mm0 ?_
    refine x_newo hP 63 (149) 0 dX5_init_60 rfl rfl rfl (by decide) cl_RX5_36 iz_RX0 it_RX0 (by decide) ?_
    refine x_dup hP 64 dX5_init_63 rfl rfl ?_
    refine x_cin hP 67 dX5_init_64 rfl ml_RX5_38 im_X0_init it_RX0 rfl pp_X0_init bd_X0_init (by decide) (by simp [pC]) a6 ?_
    refine x_putr hP 70 dX5_init_67 rfl fl_RX5_39 ⟨show 1 < 151 by omega, by simp [up1, hk6]⟩ (by decide) rfl rfl rfl rfl ?_
    refine x_aloadn hP 71 0 dX5_init_70 rfl rfl mm0 ?_
    refine x_iconst hP 72 dX5_init_71 rfl ?_
    refine x_newq hP 75 (152) 2 9 dX5_init_72 rfl rfl (by decide) (by decide) cl_RX5_43 (by decide) ?_
    refine x_putr hP 78 dX5_init_75 rfl fl_RX5_45 ⟨show 1 < 152 by omega, by simp [up1, hk6]⟩ (by decide) rfl rfl rfl rfl ?_
    refine x_iconst hP 79 dX5_init_78 rfl ?_
    refine x_istoren hP 80 1 [(0, vR (some 1)), (1, vI 0)] dX5_init_79 rfl rfl (by decide) rfl rfl ?_
    refine x_iloadn hP 81 1 dX5_init_80 rfl rfl mm1 ?_
    refine x_aloadn hP 82 0 dX5_init_81 rfl rfl mm0 ?_
    refine x_getr hP 85 151 dX5_init_82 rfl fl_RX5_45 ⟨show 1 < 152 by omega, by simp [up1, hk6]⟩ (by decide) rfl (by simp [gR, up1, up2]) ?_
    refine x_alen (kd := 9) (len := 2) hP 86 dX5_init_85 rfl ⟨show 151 < 152 by omega, by simp [up1, K8a]⟩ (by simp [pArr]) ?_
    refine x_icmp hP 89 108 ((2 : Int) ≤ 0) dX5_init_86 rfl rfl (by decide) (by decide) rfl (fun z => absurd z (by decide)) (fun _ => ?_)
    refine x_aloadn hP 90 0 dX5_init_89 rfl rfl mm0 ?_
    refine x_getr hP 93 151 dX5_init_90 rfl fl_RX5_45 ⟨show 1 < 152 by omega, by simp [up1, hk6]⟩ (by decide) rfl (by simp [gR, up1, up2]) ?_
    refine x_iloadn hP 94 1 dX5_init_93 rfl rfl mm1 ?_
    refine x_newo hP 97 (153) 2 dX5_init_94 rfl rfl rfl (by decide) cl_RX5_43 iz_RX2 it_RX2 (by decide) ?_
    refine x_dup hP 98 dX5_init_97 rfl rfl ?_
    refine x_cin hP 101 dX5_init_98 rfl ml_RX5_49 im_X2_init it_RX2 rfl pp_X2_init bd_X2_init (by decide) (by simp [pC]) a8 ?_
    refine x_aast (kd1 := 9) (len := 2) hP 102 dX5_init_101 rfl ⟨show 151 < 159 by omega, K8a⟩ (by decide) (Or.inl ⟨rfl, K8b⟩) (by decide) ⟨by decide, by decide⟩ ?_
    refine x_iinc hP 105 [(0, vR (some 1)), (1, vI 1)] dX5_init_102 rfl mm1 (by decide) rfl rfl ?_
    refine x_goto hP 80 dX5_init_105 rfl ?_
    refine x_iloadn hP 81 1 dX5_init_80 rfl rfl mm1 ?_
    refine x_aloadn hP 82 0 dX5_init_81 rfl rfl mm0 ?_
    refine x_getr hP 85 151 dX5_init_82 rfl fl_RX5_45 ⟨show 1 < 159 by omega, by simp [up1, hk8]⟩ (by decide) rfl (by show up2 r8 151 0 (some 152) 1 6 = _; simp [up2, Q8]) ?_
    refine x_alen (kd := 9) (len := 2) hP 86 dX5_init_85 rfl ⟨show 151 < 159 by omega, by simp [up1, K8a]⟩ (by simp [pArr]) ?_
    refine x_icmp hP 89 108 ((2 : Int) ≤ 1) dX5_init_86 rfl rfl (by decide) (by decide) rfl (fun z => absurd z (by decide)) (fun _ => ?_)
    refine x_aloadn hP 90 0 dX5_init_89 rfl rfl mm0 ?_
    refine x_getr hP 93 151 dX5_init_90 rfl fl_RX5_45 ⟨show 1 < 159 by omega, by simp [up1, hk8]⟩ (by decide) rfl (by show up2 r8 151 0 (some 152) 1 6 = _; simp [up2, Q8]) ?_
    refine x_iloadn hP 94 1 dX5_init_93 rfl rfl mm1 ?_
    refine x_newo hP 97 (160) 2 dX5_init_94 rfl rfl rfl (by decide) cl_RX5_43 iz_RX2 it_RX2 (by decide) ?_
    refine x_dup hP 98 dX5_init_97 rfl rfl ?_
    refine x_cin hP 101 dX5_init_98 rfl ml_RX5_49 im_X2_init it_RX2 rfl pp_X2_init bd_X2_init (by decide) (by simp [pC]) a9 ?_
    refine x_aast (kd1 := 9) (len := 2) hP 102 dX5_init_101 rfl ⟨show 151 < 166 by omega, (K9 151 (by omega)).trans K8a⟩ (by decide) (Or.inl ⟨rfl, K9b⟩) (by decide) ⟨by decide, by decide⟩ ?_
    refine x_iinc hP 105 [(0, vR (some 1)), (1, vI 2)] dX5_init_102 rfl mm1 (by decide) rfl rfl ?_
    refine x_goto hP 80 dX5_init_105 rfl ?_
    refine x_iloadn hP 81 1 dX5_init_80 rfl rfl mm1 ?_
    refine x_aloadn hP 82 0 dX5_init_81 rfl rfl mm0 ?_
    refine x_getr hP 85 151 dX5_init_82 rfl fl_RX5_45 ⟨show 1 < 166 by omega, hk9⟩ (by decide) rfl (row1 6) ?_
    refine x_alen (kd := 9) (len := 2) hP 86 dX5_init_85 rfl ⟨show 151 < 166 by omega, by show k9 151 = _; rw [K9 151 (by omega)]; exact K8a⟩ (by simp [pArr]) ?_
    refine x_icmp hP 89 108 ((2 : Int) ≤ 2) dX5_init_86 rfl rfl (by decide) (by decide) rfl (fun _ => ?_) (fun z => absurd (by decide) z)
    exact x_vret hP dX5_init_108 (by decide) hQ
  · refine ⟨⟨show 1 < 166 by omega, hk9⟩, row1 0, row1 1, row1 2, row1 3, row1 4, row1 5, row1 6, ?_, ?_, ?_, ?_, ⟨show 26 < 166 by omega, ?_⟩, ?_, ⟨show 27 < 166 by omega, ?_⟩, fun j hj => ⟨?_, ?_⟩, ⟨show 148 < 166 by omega, ?_⟩, ?_, ?_, ⟨show 149 < 166 by omega, ?_⟩, ⟨show 150 < 166 by omega, ?_⟩, ⟨show 151 < 166 by omega, ?_⟩, ?_, ?_, ⟨show 152 < 166 by omega, ?_⟩, ?_, ?_, ⟨show 159 < 166 by omega, K9b⟩, ?_, ?_⟩
    · exact w1.tr (by omega) (fun x h1 h2 => k12 x (by omega)) (r12 2 (by omega) (by omega))
    · exact w2.tr (by omega) (fun x h1 h2 => k22 x (by omega)) (r22 8 (by omega) (by omega))
    · exact w3.tr (by omega) (fun x h1 h2 => k32 x (by omega)) (r32 14 (by omega) (by omega))
    · exact w4.tr (by omega) (fun x h1 h2 => k42 x (by omega)) (r42 20 (by omega) (by omega))
    · show (k9 26).1 = 1; rw [c26 26 (by omega) (by omega)]; exact k26
    · show up2 r9 151 1 (some 159) 26 2 = _; rw [d26 26 (by omega) (by omega)]; exact w5.1.2
    · show k9 27 = _; rw [c26 27 (by omega) (by omega)]; exact w5.1.1
    · show up2 r9 151 1 (some 159) 27 j = _; rw [d26 27 (by omega) (by omega)]; exact (w5.2 j hj).1
    · exact (w5.2 j hj).2.tr (by omega) (fun x h1 h2 => c26 x (by omega) (by omega)) (d26 _ (by omega) (by omega))
    · show (k9 148).1 = 0; rw [k62 148 (by omega)]; exact k148
    · show up2 r9 151 1 (some 159) 148 1 = _; rw [r62 148 (by omega) (by omega)]; exact w6.2.2.1
    · show up2 r9 151 1 (some 159) 148 2 = _; rw [r62 148 (by omega) (by omega)]; exact w6.2.2.2
    · show k9 149 = _; rw [k62 149 (by omega)]; exact w6.1
    · show k9 150 = _; rw [k62 150 (by omega)]; exact w6.2.1
    · show k9 151 = _; rw [K9 151 (by omega)]; exact K8a
    · show up2 r9 151 1 (some 159) 151 0 = _
      have : up2 r9 151 1 (some 159) 151 0 = r9 151 0 := by simp [up2]
      rw [this]; exact R9a
    · show up2 r9 151 1 (some 159) 151 1 = _; simp [up2]
    · show (k9 152).1 = 2; rw [K9 152 (by omega)]; exact K8b
    · show up2 r9 151 1 (some 159) 152 2 = _; rw [ne 152 (by omega), R9 152 (by omega) (by omega)]; exact w8.1
    · exact w8.2.tr (by omega) (fun x h1 h2 => K9 x (by omega)) (by rw [ne 153 (by omega), R9 153 (by omega) (by omega)])
    · show up2 r9 151 1 (some 159) 159 2 = _; rw [ne 159 (by omega)]; exact w9.1
    · exact w9.2.tr (by omega) (fun _ _ _ => rfl) (ne 160 (by omega))
  · rw [ne 0 (by omega), R9 0 (by omega) (by omega), R8 0 (by omega) (by omega), R6 0 (by omega) (by omega), R5 0 (by omega) (by omega), R4 0 (by omega) (by omega), R3 0 (by omega) (by omega), R2 0 (by omega) (by omega), R1 0 (by omega)]
  · rw [← v1]
    exact cv_ne (fun f hf => by rw [S9 _ (by omega), S8 _ (by omega), S6 _ (by omega), S5 _ (by omega), S4 _ (by omega), S3 _ (by omega), S2 _ (by omega)])
  · rw [S9 26 (by omega), S8 26 (by omega), S6 26 (by omega), S5a]
  · rw [S9 26 (by omega), S8 26 (by omega), S6 26 (by omega), S5a]
  · rw [S9 148 (by omega), S8 148 (by omega), S6a]
  · rw [S9 152 (by omega), S8a]
end I3
