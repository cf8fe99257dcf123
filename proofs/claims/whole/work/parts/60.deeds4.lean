/-! Both sides of a call: undone, the book, images -/
section S10
variable {g : pG} {T : Int}
theorem pc_undo {a : Int} (hG : gAll g) (h200 : 10000 ≤ T) (hT : T ≤ 80000) (ha : iR a) : PC g T (T + 60) yX5_undo yX6_undo [vI a] := by
  intro σ w H s B I hok hc hM
  obtain ⟨⟨hw, hs⟩, hH, hsd, hB, hI⟩ := id hok
  have h1 := hc.1
  have hcw : wOK T (cv σ 2) := by rw [h1]; exact hw
  have wa := c_within (d := 58) (g := g) (σ := σ) (a := a) (b := 1) (c := 20) ha (by decide) (by decide)
  have ma := fun σ => c_in (d := 58) (g := g) (σ := σ) (a := a) (b := 1) (c := 20) (jRi ha) (by decide) (by decide)
  by_cases hina : 1 ≤ a ∧ a ≤ 20
  · have ya : ¬ b2 (1 ≤ a ∧ a ≤ 20) = 0 := by rw [b2_t hina]; decide
    by_cases hq : a ≤ (H.1 : Int)
    · obtain ⟨n, rfl⟩ := Int.eq_ofNat_of_zero_le (show 0 ≤ a by omega)
      have hn1 : 1 ≤ n ∧ n ≤ H.1 := by omega
      have hok2 := hH.2 (n - 1) (by omega)
      have htm2 := hok2.1.tm
      have hokA : aOK T (H.2 (n - 1)) (H.1 - n, fun i => H.2 (i + n)) s B I := ⟨hok2, ⟨by show H.1 - n ≤ 20; omega, fun i hi => hH.2 (i + n) (by have : i < H.1 - n := hi; omega)⟩, hsd, hB, hI⟩
      refine pc_mk (H.2 (n - 1) 0 3) hM (rO (by omega) (by omega)) (hokA.le (by omega)) ?_ (fun σ1 hm => ?_)
      · obtain ⟨g1, g2, g3, ⟨g4, p, g5, g6, g7⟩, g8, g9⟩ := hc
        let p2 : Nat := if p < n then p + 20 - n else p - n
        have hp2 : p2 < 20 ∧ (p + 19 - (n - 1)) % 20 = p2 ∧ ∀ i, i < H.1 - n → (p2 + 19 - i) % 20 = (p + 19 - (i + n)) % 20 := by
          show (if p < n then p + 20 - n else p - n) < 20 ∧ (p + 19 - (n - 1)) % 20 = (if p < n then p + 20 - n else p - n) ∧ ∀ i, i < H.1 - n → ((if p < n then p + 20 - n else p - n) + 19 - i) % 20 = (p + 19 - (i + n)) % 20
          have := hH.1
          split
          · exact ⟨by omega, by omega, fun i hi => by omega⟩
          · exact ⟨by omega, by omega, fun i hi => by omega⟩
        let s1 : pM := up2 (up2 σ 26 1 (p2 : Int)) 26 0 ((H.1 : Int) - (n : Int))
        have x1 : ∀ x, x ≠ 26 → s1 x = σ x := fun x hx => by
          show (up2 (up2 σ 26 1 (p2 : Int)) 26 0 _) x = _
          rw [up2_ne hx, up2_ne hx]
        have s10 : s1 26 0 = (H.1 : Int) - (n : Int) := by show (up2 (up2 σ 26 1 (p2 : Int)) 26 0 _) 26 0 = _; simp [up2]
        have s11 : s1 26 1 = (p2 : Int) := by show (up2 (up2 σ 26 1 (p2 : Int)) 26 0 _) 26 1 = _; simp [up2]
        obtain ⟨t, b1, b2', b3⟩ := c_copyFrom (d := 56) (σ := s1) (o := 2) (a := 28 + 6 * p2) hG.W_2 (hG.H p2 hp2.1).2 (by omega)
        have ecv : cv s1 (28 + 6 * p2) = H.2 (n - 1) := by
          rw [← g7 (n - 1) (by omega), hp2.2.1]
          exact cv_ne (fun f hf => x1 _ (by omega))
        rw [ecv] at b2'
        have tb : Ca 59 yX1_takeBack [vR (some 26), vI (n : Int), vR (some 2)] g σ [] g t := by
          refine ca_in cd_X1_takeBack bd_X1_takeBack rfl (by decide) (Nat.le_of_ble_eq_true rfl) (fun Q P hP hQ => ?_)
          refine k_X1_takeBack_0 hP _ 2 hG hG.W_2 ?_
          rw [g4, g6]
          have e0 : ∀ v : Int, (up2 σ 26 1 v) 26 0 = (H.1 : Int) := fun v => by
            have : (up2 σ 26 1 v) 26 0 = σ 26 0 := by simp [up2]
            rw [this, g4]
          have e1 : ∀ v u : Int, (up2 (up2 σ 26 1 v) 26 0 u) 26 1 = v := fun v u => by simp [up2]
          refine ⟨rO (by omega) (by omega), fun z => absurd z (by omega), fun _ => ⟨rO (by omega) (by omega), rO (by omega) (by omega), fun _ => ⟨rO (by omega) (by omega), rO (by omega) (by omega), fun z => ?_, fun z => ?_⟩, fun z => absurd hq z⟩⟩
          · rw [e0, e1, show (p : Int) - (n : Int) + 20 = (p2 : Int) by
              show _ = ((if p < n then p + 20 - n else p - n : Nat) : Int)
              rw [if_pos (by omega)]; omega, Int.toNat_natCast]
            exact ⟨⟨by omega, by omega⟩, t, b1, hQ⟩
          · rw [e0, e1, show (p : Int) - (n : Int) = (p2 : Int) by
              show _ = ((if p < n then p + 20 - n else p - n : Nat) : Int)
              rw [if_neg (by omega)]; omega, Int.toNat_natCast]
            exact ⟨⟨by omega, by omega⟩, t, b1, hQ⟩
        have all : ∀ x, x ≠ 1 → x ≠ 26 → (x < 2 ∨ 7 < x) → (up2 t 1 8 0) x = σ x := fun x n1 n2 n3 => by
          rw [up2_ne n1, b3 x (by omega), x1 x n2]
        have e26 : (up2 t 1 8 0) 26 = s1 26 := by rw [up2_ne (by decide), b3 26 (by decide)]
        have ecv2 : cv (up2 t 1 8 0) 2 = H.2 (n - 1) := by
          rw [← b2']
          exact cv_ne (fun f hf => up2_ne (by omega))
        have e23 : (up2 t 1 8 0) 2 3 = H.2 (n - 1) 0 3 := by rw [← ecv2]; exact (cv0 (by decide)).symm
        refine ⟨up2 t 1 8 0, ca_in cd_X5_undo bd_X5_undo rfl (by decide) (Nat.le_of_ble_eq_true rfl) (fun Q P hP hQ => ?_), ⟨ecv2, ?_, Or.inl (by simp [up2]), ⟨?_, p2, hp2.1, ?_, fun i hi => ?_⟩, g8.co (fun x n1 n2 => all x (by omega) (by omega) (by omega)), g9.co (fun x n1 n2 => all x (by omega) (by omega) (by omega))⟩, fun x hx => all x (by omega) (by omega) (by omega)⟩
        · refine k_X5_undo_0 hP _ hG ⟨_, wa, b2_iR _, fun _ => ?_, fun z => absurd ya z⟩
          rw [g4]
          refine ⟨rO (by omega) (by omega), rO (by omega) (by omega), fun _ => ⟨t, tb, ?_⟩, fun z => absurd hq z⟩
          rw [e23]; exact hQ
        · have : (up2 t 1 8 0) 1 7 = t 1 7 := by simp [up2]
          rw [this, b3 1 (by decide), x1 1 (by decide), g2]
        · rw [e26, s10]
          show _ = ((H.1 - n : Nat) : Int)
          omega
        · rw [e26, s11]
        · have hi2 : i < H.1 - n := hi
          show cv _ _ = H.2 (i + n)
          rw [hp2.2.2 i hi2, ← g7 (i + n) (by omega)]
          have hlt : (p + 19 - (i + n)) % 20 < 20 := Nat.mod_lt _ (by decide)
          exact cv_ne (fun f hf => all _ (by omega) (by omega) (by omega))
      · obtain ⟨m1, m2, ⟨m3, m4⟩, ⟨m5, m6⟩, m7⟩ := hm
        obtain ⟨t, b1, b2', b3, -⟩ := c_mcopy (d := 58) (σ := up2 σ1 166 3 ((H.1 : Int) - (n : Int))) (p := 260 + 52 * (H.1 - n)) (q := 0) hG (by omega) (by decide) (by omega)
        have erow : ∀ r, mv (up2 σ1 166 3 ((H.1 : Int) - (n : Int))) r = mv σ1 r := fun r => mv_cong (fun i _ => by rw [up2_ne (by decide)])
        rw [erow, show 260 + 52 * (H.1 - n) = 260 + 52 * (H.1 - 1 - (n - 1)) by omega, m4 (n - 1) (by omega)] at b2'
        have row : ∀ r, 52 ≤ r → mv t r = mv σ1 r := fun r hr => by
          rw [← erow r]
          exact mv_cong (fun i hi => b3.2 _ (by omega))
        have x1 : ∀ x, x ≠ 166 → x ≠ 167 → t x = σ1 x := fun x n1 n2 => by rw [b3.1 x n2, up2_ne n1]
        have x6 : ∀ i, i ≠ 3 → t 166 i = σ1 166 i := fun i hi => by
          rw [b3.1 166 (by decide)]
          simp [up2, hi]
        have e2 : t 167 2 = H.2 (n - 1) 0 3 := by rw [← b2']; exact (m_tm (σ := t) (r := 0)).symm
        refine ⟨t, ca_in cd_X6_undo bd_X6_undo rfl (by decide) (Nat.le_of_ble_eq_true rfl) (fun Q P hP hQ => ?_), ⟨b2', by rw [x6 4 (by decide)]; exact m2, ⟨?_, fun i hi => ?_⟩, ⟨by rw [x6 5 (by decide)]; exact m5, fun i hi => by rw [x1 170 (by decide) (by decide), x1 171 (by decide) (by decide)]; exact m6 i hi⟩, fun i hi => ?_⟩, fun x hx => x1 x (by omega) (by omega)⟩
        · refine k_X6_undo_0 hP _ hG ⟨ha, _, ma σ1, b2_iR _, fun _ => ?_, fun z => absurd ya z⟩
          have e3 : (up2 σ1 166 3 ((H.1 : Int) - (n : Int))) 166 3 = (H.1 : Int) - (n : Int) := by simp [up2]
          rw [m3, e3, show (260 : Int) + 52 * ((H.1 : Int) - (n : Int)) = ((260 + 52 * (H.1 - n) : Nat) : Int) by omega]
          refine ⟨rO (by omega) (by omega), rO (by omega) (by omega), fun _ => ⟨t, b1, ?_⟩, fun z => absurd hq z⟩
          rw [e2]; exact hQ
        · rw [b3.1 166 (by decide)]
          show (up2 σ1 166 3 ((H.1 : Int) - (n : Int))) 166 3 = ((H.1 - n : Nat) : Int)
          have : (up2 σ1 166 3 ((H.1 : Int) - (n : Int))) 166 3 = (H.1 : Int) - (n : Int) := by simp [up2]
          rw [this]; omega
        · have hi2 : i < H.1 - n := hi
          show mv t (260 + 52 * (H.1 - n - 1 - i)) = H.2 (i + n)
          rw [row _ (by omega), ← m4 (i + n) (by omega)]
          congr 1
          omega
        · rw [x1 169 (by decide) (by decide), x1 168 (by decide) (by decide), row _ (by omega)]
          exact m7 i hi
    · refine pc_mk (-1000000003) hM (by decide) (hok.le (by omega)) ⟨σ, ca_in cd_X5_undo bd_X5_undo rfl (by decide) (Nat.le_of_ble_eq_true rfl) (fun Q P hP hQ => ?_), hc, FrC.rf⟩ (fun σ1 hm => ⟨σ1, ca_in cd_X6_undo bd_X6_undo rfl (by decide) (Nat.le_of_ble_eq_true rfl) (fun Q P hP hQ => ?_), hm, FrM.rf⟩)
      · refine k_X5_undo_0 hP _ hG ⟨_, wa, b2_iR _, fun _ => ?_, fun z => absurd ya z⟩
        rw [hc.2.2.2.1.1]
        exact ⟨ha, rO (by omega) (by omega), fun z => absurd z hq, fun _ => hQ⟩
      · refine k_X6_undo_0 hP _ hG ⟨ha, _, ma σ1, b2_iR _, fun _ => ?_, fun z => absurd ya z⟩
        rw [hm.2.2.1.1]
        exact ⟨ha, rO (by omega) (by omega), fun z => absurd z hq, fun _ => hQ⟩
  · have na : b2 (1 ≤ a ∧ a ≤ 20) = 0 := b2_f hina
    refine pc_mk (-1000000002) hM (by decide) (hok.le (by omega)) ⟨σ, ca_in cd_X5_undo bd_X5_undo rfl (by decide) (Nat.le_of_ble_eq_true rfl) (fun Q P hP hQ => ?_), hc, FrC.rf⟩ (fun σ1 hm => ⟨σ1, ca_in cd_X6_undo bd_X6_undo rfl (by decide) (Nat.le_of_ble_eq_true rfl) (fun Q P hP hQ => ?_), hm, FrM.rf⟩)
    · exact k_X5_undo_0 hP _ hG ⟨_, wa, b2_iR _, fun z => absurd na z, fun _ => hQ⟩
    · exact k_X6_undo_0 hP _ hG ⟨ha, _, ma σ1, b2_iR _, fun z => absurd na z, fun _ => hQ⟩
theorem pc_tear (hG : gAll g) (h200 : 10000 ≤ T) (hT : T ≤ 80000) : PC g T (T + 60) yX5_tear yX6_tear [] := by
  intro σ w H s B I hok hc hM
  obtain ⟨⟨hw, hs⟩, hH, hsd, hB, hI⟩ := id hok
  have h1 := hc.1
  have hcw : wOK T (cv σ 2) := by rw [h1]; exact hw
  have hokA : aOK T w H s (0, B.2) I := ⟨⟨hw, hs⟩, hH, hsd, ⟨Nat.zero_le 20, fun i hi => absurd (show i < 0 from hi) (by omega)⟩, hI⟩
  refine pc_mk (B.1 : Int) hM (rO (by omega) (by omega)) (hokA.le (by omega)) ?_ (fun σ1 hm => ?_)
  · obtain ⟨g1, g2, g3, g4, g5, g6⟩ := hc
    have all : ∀ x, x ≠ 148 → (up2 σ 148 0 0) x = σ x := fun x hx => up2_ne hx
    refine ⟨up2 σ 148 0 0, ca_in cd_X5_tear bd_X5_tear rfl (by decide) (Nat.le_of_ble_eq_true rfl) (fun Q P hP hQ => ?_), ⟨?_, by rw [all 1 (by decide)]; exact g2, ?_, g4.co (fun x q1 q2 => all x (by omega)), ⟨by simp [up2], fun i hi => absurd (show i < 0 from hi) (by omega)⟩, g6.co (fun x q1 q2 => all x (by omega))⟩, fun x hx => all x (by omega)⟩
    · have := g5.1
      rw [← this] at hQ
      exact k_X5_tear_0 hP hG hQ
    · rw [← g1]; exact cv_ne (fun f hf => all _ (by omega))
    · rw [all 1 (by decide)]
      unfold plK
      rw [all 14 (by decide), all (14 + 4) (by decide)]
      exact g3
  · obtain ⟨m1, m2, ⟨m3, m4⟩, ⟨m5, m6⟩, m7⟩ := hm
    have all : ∀ x, x ≠ 166 → (up2 σ1 166 5 0) x = σ1 x := fun x hx => up2_ne hx
    have row : ∀ r, mv (up2 σ1 166 5 0) r = mv σ1 r := fun r => mv_cong (fun i _ => by rw [all 167 (by decide)])
    refine ⟨up2 σ1 166 5 0, ca_in cd_X6_tear bd_X6_tear rfl (by decide) (Nat.le_of_ble_eq_true rfl) (fun Q P hP hQ => ?_), ⟨by rw [row]; exact m1, ?_, ⟨?_, fun i hi => by rw [row]; exact m4 i hi⟩, ⟨by simp [up2], fun i hi => absurd (show i < 0 from hi) (by omega)⟩, fun i hi => by rw [all 169 (by decide), all 168 (by decide), row]; exact m7 i hi⟩, fun x hx => all x (by omega)⟩
    · rw [← m5] at hQ
      exact k_X6_tear_0 hP hG hQ
    · rw [← m2]; simp [up2]
    · rw [← m3]; simp [up2]
theorem pc_seed {a : Int} (hG : gAll g) (h200 : 10000 ≤ T) (hT : T ≤ 80000) (ha : iR a) : PC g T (T + 60) yX5_seed yX6_seed [vI a] := by
  intro σ w H s B I hok hc hM
  obtain ⟨⟨hw, hs⟩, hH, hsd, hB, hI⟩ := id hok
  have h1 := hc.1
  have hcw : wOK T (cv σ 2) := by rw [h1]; exact hw
  by_cases hq : 0 ≤ a
  · have hokA : aOK T w H a B I := ⟨⟨hw, hs⟩, hH, ⟨hq, by have := ha.2; omega⟩, hB, hI⟩
    refine pc_mk s hM ⟨by omega, by omega⟩ (hokA.le (by omega)) ⟨up2 σ 1 7 a, ca_in cd_X5_seed bd_X5_seed rfl (by decide) (Nat.le_of_ble_eq_true rfl) (fun Q P hP hQ => ?_), hc.seed, fun x hx => up2_ne (by omega)⟩ (fun σ1 hm => ⟨up2 σ1 166 4 a, ca_in cd_X6_seed bd_X6_seed rfl (by decide) (Nat.le_of_ble_eq_true rfl) (fun Q P hP hQ => ?_), hm.seed, fun x hx => up2_ne (by omega)⟩)
    · exact k_X5_seed_0 hP _ hG ⟨ha, fun _ => by rw [hc.2.1]; exact hQ, fun z => absurd hq z⟩
    · exact k_X6_seed_0 hP _ hG ⟨ha, fun _ => by rw [hm.2.1]; exact hQ, fun z => absurd hq z⟩
  · refine pc_mk (-1000000002) hM (by decide) (hok.le (by omega)) ⟨σ, ca_in cd_X5_seed bd_X5_seed rfl (by decide) (Nat.le_of_ble_eq_true rfl) (fun Q P hP hQ => ?_), hc, FrC.rf⟩ (fun σ1 hm => ⟨σ1, ca_in cd_X6_seed bd_X6_seed rfl (by decide) (Nat.le_of_ble_eq_true rfl) (fun Q P hP hQ => ?_), hm, FrM.rf⟩)
    · exact k_X5_seed_0 hP _ hG ⟨ha, fun z => absurd z hq, fun _ => hQ⟩
    · exact k_X6_seed_0 hP _ hG ⟨ha, fun z => absurd z hq, fun _ => hQ⟩
theorem pc_write {a b : Int} (hG : gAll g) (h200 : 10000 ≤ T) (hT : T ≤ 80000) (ha : iR a) (hb : b = 0 ∨ b = 1) : PC g T (T + 60) yX5_write yX6_write [vI a, vI b] := by
  intro σ w H s B I hok hc hM
  obtain ⟨⟨hw, hs⟩, hH, hsd, hB, hI⟩ := id hok
  have h1 := hc.1
  have hcw : wOK T (cv σ 2) := by rw [h1]; exact hw
  have isC := c_isEdge (d := 57) (σ := σ) (o := 2) (T := T) (e := a) hG.W_2 hcw ha
  rw [h1] at isC
  have isM : ∀ σ1, MI σ1 w H s B I → Ca 59 yX6_beyond [vR (some 166), vI 0, vI a] g σ1 [vI (acI w a)] g σ1 := fun σ1 hm => by
    have := c_mbey (d := 57) (σ := σ1) (r := 0) (T := T) (e := a) hG (by rw [hm.1]; exact hw) (by decide) ha
    rw [hm.1] at this
    exact this
  have iA := acI_iR hw a
  have b48 := hc.2.2.2.2.1.1
  have room : ∀ d, Ca (d + 1) yX0_hasRoom [vR (some 148)] g σ [vI (b2 (B.1 < 20))] g σ := fun d => by
    refine ca_in cd_X0_hasRoom bd_X0_hasRoom rfl (by decide) (Nat.le_of_ble_eq_true rfl) (fun Q P hP hQ => ?_)
    refine k_X0_hasRoom_0 hP hG ?_
    rw [b48]
    refine ⟨rO (by omega) (by omega), fun z => ?_, fun z => ?_⟩
    · rwa [b2_f (by omega)] at hQ
    · rwa [b2_t (by omega)] at hQ
  by_cases hin : acI w a = -1
  · have hno : b2 (¬ acI w a = -1) = 0 := b2_f (fun z => z hin)
    refine pc_mk (-1000000001) hM (by decide) (hok.le (by omega)) ⟨σ, ca_in cd_X5_write bd_X5_write rfl (by decide) (Nat.le_of_ble_eq_true rfl) (fun Q P hP hQ => ?_), hc, FrC.rf⟩ (fun σ1 hm => ⟨σ1, ca_in cd_X6_write bd_X6_write rfl (by decide) (Nat.le_of_ble_eq_true rfl) (fun Q P hP hQ => ?_), hm, FrM.rf⟩)
    · exact k_X5_write_0 hP _ _ hG ⟨_, isC, b2_iR _, fun z => absurd hno z, fun _ => hQ⟩
    · exact k_X6_write_0 hP _ _ hG ⟨_, isM σ1 hm, iA, fun z => absurd hin z, fun _ => hQ⟩
  · have hyes : ¬ b2 (¬ acI w a = -1) = 0 := by rw [b2_t hin]; decide
    have hr := acI_edge hw hin
    by_cases hq : B.1 < 20
    · have yr : ¬ b2 (B.1 < 20) = 0 := by rw [b2_t hq]; decide
      have hokA : aOK T w H s (B.1 + 1, (fun i => if i = B.1 then a else B.2.1 i), (fun i => if i = B.1 then b else B.2.2 i)) I := by
        refine ⟨⟨hw, hs⟩, hH, hsd, ⟨by show B.1 + 1 ≤ 20; omega, fun i hi => ?_⟩, hI⟩
        have hi2 : i < B.1 + 1 := hi
        show (0 ≤ (if i = B.1 then a else B.2.1 i) ∧ (if i = B.1 then a else B.2.1 i) < 27) ∧ ((if i = B.1 then b else B.2.2 i) = 0 ∨ (if i = B.1 then b else B.2.2 i) = 1)
        by_cases hiB : i = B.1
        · rw [if_pos hiB, if_pos hiB]; exact ⟨hr, hb⟩
        · rw [if_neg hiB, if_neg hiB]; exact hB.2 i (by omega)
      refine pc_mk ((B.1 : Int) + 1) hM (rO (by omega) (by omega)) (hokA.le (by omega)) ?_ (fun σ1 hm => ?_)
      · obtain ⟨g1, g2, g3, g4, g5, g6⟩ := hc
        have all : ∀ x, x ≠ 148 → x ≠ 149 → x ≠ 150 → (up2 (up2 (up2 σ 149 B.1 a) 150 B.1 b) 148 0 ((B.1 : Int) + 1)) x = σ x := fun x n1 n2 n3 => by rw [up2_ne n1, up2_ne n3, up2_ne n2]
        have ent : Ca 59 yX0_enter [vR (some 148), vI a, vI b] g σ [] g (up2 (up2 (up2 σ 149 B.1 a) 150 B.1 b) 148 0 ((B.1 : Int) + 1)) := by
          refine ca_in cd_X0_enter bd_X0_enter rfl (by decide) (Nat.le_of_ble_eq_true rfl) (fun Q P hP hQ => ?_)
          have y1 : (up2 σ 149 B.1 a) 148 0 = (B.1 : Int) := by rw [up2_ne (by decide)]; exact b48
          have y2 : (up2 (up2 σ 149 B.1 a) 150 B.1 b) 148 0 = (B.1 : Int) := by rw [up2_ne (by decide)]; exact y1
          refine k_X0_enter_0 hP _ _ hG ⟨_, room 57, b2_iR _, fun _ => ?_, fun z => absurd yr z⟩
          rw [b48, Int.toNat_natCast, y1, Int.toNat_natCast, y2]
          exact ⟨⟨by omega, by omega⟩, ⟨by omega, by omega⟩, hb, hQ⟩
        refine ⟨up2 (up2 (up2 σ 149 B.1 a) 150 B.1 b) 148 0 ((B.1 : Int) + 1), ca_in cd_X5_write bd_X5_write rfl (by decide) (Nat.le_of_ble_eq_true rfl) (fun Q P hP hQ => ?_), ⟨?_, by rw [all 1 (by decide) (by decide) (by decide)]; exact g2, ?_, g4.co (fun x q1 q2 => all x (by omega) (by omega) (by omega)), ⟨by simp [up2], fun i hi => ?_⟩, g6.co (fun x q1 q2 => all x (by omega) (by omega) (by omega))⟩, fun x hx => all x (by omega) (by omega) (by omega)⟩
        · refine k_X5_write_0 hP _ _ hG ⟨_, isC, b2_iR _, fun _ => ⟨_, room 58, b2_iR _, fun _ => ⟨_, ent, ?_⟩, fun z => absurd yr z⟩, fun z => absurd hyes z⟩
          have : (up2 (up2 (up2 σ 149 B.1 a) 150 B.1 b) 148 0 ((B.1 : Int) + 1)) 148 0 = (B.1 : Int) + 1 := by simp [up2]
          rw [this]; exact hQ
        · rw [← g1]; exact cv_ne (fun f hf => all _ (by omega) (by omega) (by omega))
        · rw [all 1 (by decide) (by decide) (by decide)]
          unfold plK
          rw [all 14 (by decide) (by decide) (by decide), all (14 + 4) (by decide) (by decide) (by decide)]
          exact g3
        · have hi2 : i < B.1 + 1 := hi
          show _ = (if i = B.1 then a else B.2.1 i) ∧ _ = (if i = B.1 then b else B.2.2 i)
          by_cases hiB : i = B.1
          · rw [if_pos hiB, if_pos hiB]; simp [up2, hiB]
          · rw [if_neg hiB, if_neg hiB, ← (g5.2 i (by omega)).1, ← (g5.2 i (by omega)).2]; simp [up2, hiB]
      · obtain ⟨m1, m2, ⟨m3, m4⟩, ⟨m5, m6⟩, m7⟩ := id hm
        have all : ∀ x, x ≠ 166 → x ≠ 170 → x ≠ 171 → (up2 (up2 (up2 σ1 170 B.1 a) 171 B.1 b) 166 5 ((B.1 : Int) + 1)) x = σ1 x := fun x n1 n2 n3 => by rw [up2_ne n1, up2_ne n3, up2_ne n2]
        have row : ∀ r, mv (up2 (up2 (up2 σ1 170 B.1 a) 171 B.1 b) 166 5 ((B.1 : Int) + 1)) r = mv σ1 r := fun r => mv_cong (fun i _ => by rw [all 167 (by decide) (by decide) (by decide)])
        refine ⟨up2 (up2 (up2 σ1 170 B.1 a) 171 B.1 b) 166 5 ((B.1 : Int) + 1), ca_in cd_X6_write bd_X6_write rfl (by decide) (Nat.le_of_ble_eq_true rfl) (fun Q P hP hQ => ?_), ⟨by rw [row]; exact m1, ?_, ⟨?_, fun i hi => by rw [row]; exact m4 i hi⟩, ⟨by simp [up2], fun i hi => ?_⟩, fun i hi => by rw [all 169 (by decide) (by decide) (by decide), all 168 (by decide) (by decide) (by decide), row]; exact m7 i hi⟩, fun x hx => all x (by omega) (by omega) (by omega)⟩
        · have y1 : (up2 σ1 170 B.1 a) 166 5 = (B.1 : Int) := by rw [up2_ne (by decide)]; exact m5
          have y2 : (up2 (up2 σ1 170 B.1 a) 171 B.1 b) 166 5 = (B.1 : Int) := by rw [up2_ne (by decide)]; exact y1
          have y3 : (up2 (up2 (up2 σ1 170 B.1 a) 171 B.1 b) 166 5 ((B.1 : Int) + 1)) 166 5 = (B.1 : Int) + 1 := by simp [up2]
          refine k_X6_write_0 hP _ _ hG ⟨_, isM σ1 hm, iA, fun _ => ?_, fun z => absurd hin z⟩
          rw [m5, Int.toNat_natCast, y1, Int.toNat_natCast, y2, y3]
          exact ⟨rO (by omega) (by omega), fun _ => ⟨⟨by omega, by omega⟩, ⟨by omega, by omega⟩, hb, hQ⟩, fun z => absurd (by omega) z⟩
        · rw [← m2]; simp [up2]
        · rw [← m3]; simp [up2]
        · have hi2 : i < B.1 + 1 := hi
          show _ = (if i = B.1 then a else B.2.1 i) ∧ _ = (if i = B.1 then b else B.2.2 i)
          by_cases hiB : i = B.1
          · rw [if_pos hiB, if_pos hiB]; simp [up2, hiB]
          · rw [if_neg hiB, if_neg hiB, ← (m6 i (by omega)).1, ← (m6 i (by omega)).2]; simp [up2, hiB]
    · have nr : b2 (B.1 < 20) = 0 := b2_f hq
      refine pc_mk (-1000000004) hM (by decide) (hok.le (by omega)) ⟨σ, ca_in cd_X5_write bd_X5_write rfl (by decide) (Nat.le_of_ble_eq_true rfl) (fun Q P hP hQ => ?_), hc, FrC.rf⟩ (fun σ1 hm => ⟨σ1, ca_in cd_X6_write bd_X6_write rfl (by decide) (Nat.le_of_ble_eq_true rfl) (fun Q P hP hQ => ?_), hm, FrM.rf⟩)
      · exact k_X5_write_0 hP _ _ hG ⟨_, isC, b2_iR _, fun _ => ⟨_, room 58, b2_iR _, fun z => absurd nr z, fun _ => hQ⟩, fun z => absurd hyes z⟩
      · refine k_X6_write_0 hP _ _ hG ⟨_, isM σ1 hm, iA, fun _ => ?_, fun z => absurd hin z⟩
        rw [hm.2.2.2.1.1]
        exact ⟨rO (by omega) (by omega), fun z => absurd (by omega) z, fun _ => hQ⟩
theorem im_g (hG : gAll g) {i : Nat} (hi : i < 2) : g.2.2 151 i = some (152 + 7 * i) ∧ gIm g (152 + 7 * i) := by
  rcases (show i = 0 ∨ i = 1 by omega) with rfl | rfl
  · exact ⟨hG.R_151_0, hG.O_152, hG.R_152_2, hG.W_153⟩
  · exact ⟨hG.R_151_1, hG.O_159, hG.R_159_2, hG.W_160⟩
theorem c_imAt {d : Nat} {σ : pM} {a : Int} (hG : gAll g) (ha : iR a) : Ca (d + 1) yX5_imageAt [vR (some 1), vI a] g σ [vR (if 0 ≤ a ∧ a ≤ 1 then some (152 + 7 * a.toNat) else none)] g σ := by
  refine ca_in cd_X5_imageAt bd_X5_imageAt rfl (by decide) (Nat.le_of_ble_eq_true rfl) (fun Q P hP hQ => ?_)
  refine k_X5_imageAt_0 hP _ hG ⟨ha, fun z => ?_, fun z => ⟨ha, fun z2 => ?_, fun z2 => ⟨⟨by omega, by omega⟩, ?_⟩⟩⟩
  · rw [if_neg (by omega)] at hQ; exact hQ
  · rw [if_neg (by omega)] at hQ; exact hQ
  · rw [if_pos (by omega)] at hQ
    rw [(im_g hG (i := a.toNat) (by omega)).1]
    exact hQ
theorem c_forget {d : Nat} {σ : pM} (hG : gAll g) : Ca (d + 1) yX1_forget [vR (some 26)] g σ [] g (up2 σ 26 0 0) := ca_in cd_X1_forget bd_X1_forget rfl (by decide) (Nat.le_of_ble_eq_true rfl) (fun Q P hP hQ => k_X1_forget_0 hP hG hQ)
theorem hiR_0 {σ : pM} {H : Hs} (h : hiR σ H) : hiR (up2 σ 26 0 0) (0, H.2) := by
  obtain ⟨h1, p, h2, h3, h4⟩ := h
  exact ⟨by simp [up2], p, h2, by rw [← h3]; simp [up2], fun i hi => absurd (show i < 0 from hi) (by omega)⟩
theorem pc_keep {a : Int} (hG : gAll g) (h200 : 10000 ≤ T) (hT : T ≤ 80000) (ha : iR a) : PC g T (T + 60) yX5_keep yX6_keep [vI a] := by
  intro σ w H s B I hok hc hM
  obtain ⟨⟨hw, hs⟩, hH, hsd, hB, hI⟩ := id hok
  have h1 := hc.1
  have hcw : wOK T (cv σ 2) := by rw [h1]; exact hw
  have im := c_imAt (d := 58) (g := g) (σ := σ) hG ha
  have mi := fun σ => c_in (d := 58) (g := g) (σ := σ) (a := a) (b := 0) (c := 1) (jRi ha) (by decide) (by decide)
  by_cases hin : 0 ≤ a ∧ a ≤ 1
  · have hyes : ¬ b2 (0 ≤ a ∧ a ≤ 1) = 0 := by rw [b2_t hin]; decide
    obtain ⟨k, rfl⟩ := Int.eq_ofNat_of_zero_le hin.1
    have hk : k < 2 := by omega
    obtain ⟨-, hgi⟩ := im_g hG hk
    rw [if_pos hin, Int.toNat_natCast] at im
    have hokA : aOK T w (0, H.2) s B ((fun i => if i = k then 1 else I.1 i), (fun i => if i = k then s else I.2.1 i), (fun i => if i = k then w else I.2.2 i)) := by
      refine ⟨⟨hw, hs⟩, ⟨Nat.zero_le 20, fun i hi => absurd (show i < 0 from hi) (by omega)⟩, hsd, hB, fun i hi => ?_⟩
      show ((if i = k then (1 : Int) else I.1 i) = 0 ∨ (if i = k then (1 : Int) else I.1 i) = 1) ∧ ((if i = k then (1 : Int) else I.1 i) = 1 → (0 ≤ (if i = k then s else I.2.1 i) ∧ (if i = k then s else I.2.1 i) < 2147483648) ∧ wOK T (if i = k then w else I.2.2 i) ∧ wS (if i = k then w else I.2.2 i))
      by_cases hik : i = k
      · rw [if_pos hik, if_pos hik, if_pos hik]; exact ⟨Or.inr rfl, fun _ => ⟨hsd, hw, hs⟩⟩
      · rw [if_neg hik, if_neg hik, if_neg hik]; exact hI i hi
    refine pc_mk 1 hM (by decide) (hokA.le (by omega)) ?_ (fun σ1 hm => ?_)
    · obtain ⟨g1, g2, g3, g4, g5, g6⟩ := hc
      let s1 : pM := up2 (up2 σ (152 + 7 * k) 0 1) (152 + 7 * k) 1 s
      have x1 : ∀ x, x ≠ 152 + 7 * k → s1 x = σ x := fun x hx => by
        show (up2 (up2 σ (152 + 7 * k) 0 1) (152 + 7 * k) 1 s) x = _
        rw [up2_ne hx, up2_ne hx]
      obtain ⟨t, b1, b2', b3⟩ := c_copyFrom (d := 57) (σ := s1) (o := 153 + 7 * k) (a := 2) (by have := hgi.w; rwa [show 152 + 7 * k + 1 = 153 + 7 * k by omega] at this) hG.W_2 (by omega)
      have c2 : cv s1 2 = w := by
        rw [← g1]; exact cv_ne (fun f hf => x1 _ (by omega))
      rw [c2] at b2'
      have all : ∀ x, x ≠ 26 → (x < 152 + 7 * k ∨ 158 + 7 * k < x) → (up2 t 26 0 0) x = σ x := fun x n1 n2 => by
        rw [up2_ne n1, b3 x (by omega), x1 x (by omega)]
      refine ⟨up2 t 26 0 0, ca_in cd_X5_keep bd_X5_keep rfl (by decide) (Nat.le_of_ble_eq_true rfl) (fun Q P hP hQ => ?_), ⟨?_, by rw [all 1 (by decide) (by omega)]; exact g2, ?_, ?_, g5.co (fun x q1 q2 => all x (by omega) (by omega)), fun i hi => ?_⟩, fun x hx => all x (by omega) (by omega)⟩
      · refine k_X5_keep_0 hP _ hG ⟨_, im, fun _ => ⟨152 + 7 * k, rfl, hgi, ?_⟩, fun z => nomatch z⟩
        have e17 : (up2 σ (152 + 7 * k) 0 1) 1 7 = s := by rw [up2_ne (by omega)]; exact g2
        rw [e17]
        rw [show 152 + 7 * k + 1 = 153 + 7 * k by omega]
        exact ⟨t, b1, _, c_forget (d := 58) hG, hQ⟩
      · rw [← g1]; exact cv_ne (fun f hf => all _ (by omega) (by omega))
      · rw [all 1 (by decide) (by omega)]
        unfold plK
        rw [all 14 (by decide) (by omega), all (14 + 4) (by decide) (by omega)]
        exact g3
      · have ht : hiR t H := g4.co (fun x q1 q2 => by rw [b3 x (by omega), x1 x (by omega)])
        exact hiR_0 ht
      · show _ = (if i = k then (1 : Int) else I.1 i) ∧ ((if i = k then (1 : Int) else I.1 i) = 1 → _ = (if i = k then s else I.2.1 i) ∧ _ = (if i = k then w else I.2.2 i))
        by_cases hik : i = k
        · subst hik
          rw [if_pos rfl, if_pos rfl, if_pos rfl]
          have et : (up2 t 26 0 0) (152 + 7 * i) = s1 (152 + 7 * i) := by rw [up2_ne (by omega), b3 _ (by omega)]
          rw [et]
          refine ⟨?_, fun _ => ⟨?_, ?_⟩⟩
          · show (up2 (up2 σ (152 + 7 * i) 0 1) (152 + 7 * i) 1 s) (152 + 7 * i) 0 = 1
            simp [up2]
          · show (up2 (up2 σ (152 + 7 * i) 0 1) (152 + 7 * i) 1 s) (152 + 7 * i) 1 = s
            simp [up2]
          · rw [← b2']; exact cv_ne (fun f hf => up2_ne (by omega))
        · rw [if_neg hik, if_neg hik, if_neg hik, all (152 + 7 * i) (by omega) (by omega)]
          refine ⟨(g6 i hi).1, fun z => ⟨((g6 i hi).2 z).1, ?_⟩⟩
          rw [← ((g6 i hi).2 z).2]
          exact cv_ne (fun f hf => all _ (by omega) (by omega))
    · obtain ⟨m1, m2, ⟨m3, m4⟩, ⟨m5, m6⟩, m7⟩ := id hm
      obtain ⟨t, b1, b2', b3, -⟩ := c_mcopy (d := 58) (σ := σ1) (p := 0) (q := 156 + 52 * k) hG (by decide) (by omega) (by omega)
      rw [m1] at b2'
      have all : ∀ x, x ≠ 166 → x ≠ 167 → x ≠ 168 → x ≠ 169 → (up2 (up2 (up2 t 168 k s) 169 k 1) 166 3 0) x = σ1 x := fun x n1 n2 n3 n4 => by rw [up2_ne n1, up2_ne n4, up2_ne n3, b3.1 x n2]
      have e67 : (up2 (up2 (up2 t 168 k s) 169 k 1) 166 3 0) 167 = t 167 := by rw [up2_ne (by decide), up2_ne (by decide), up2_ne (by decide)]
      have e66 : ∀ i, i ≠ 3 → (up2 (up2 (up2 t 168 k s) 169 k 1) 166 3 0) 166 i = σ1 166 i := fun i hi => by
        rw [← b3.1 166 (by decide)]; simp [up2, hi]
      have row : ∀ r, mv (up2 (up2 (up2 t 168 k s) 169 k 1) 166 3 0) r = mv t r := fun r => mv_cong (fun i _ => by rw [e67])
      have rowt : ∀ r, (r + 52 ≤ 156 + 52 * k ∨ 156 + 52 * k + 52 ≤ r) → mv t r = mv σ1 r := fun r hr => mv_cong (fun i hi => b3.2 _ (by omega))
      refine ⟨up2 (up2 (up2 t 168 k s) 169 k 1) 166 3 0, ca_in cd_X6_keep bd_X6_keep rfl (by decide) (Nat.le_of_ble_eq_true rfl) (fun Q P hP hQ => ?_), ⟨by rw [row, rowt 0 (by omega)]; exact m1, by rw [e66 4 (by decide)]; exact m2, ⟨by simp [up2], fun i hi => absurd (show i < 0 from hi) (by omega)⟩, ⟨by rw [e66 5 (by decide)]; exact m5, fun i hi => by rw [all 170 (by decide) (by decide) (by decide) (by decide), all 171 (by decide) (by decide) (by decide) (by decide)]; exact m6 i hi⟩, fun i hi => ?_⟩, fun x hx => all x (by omega) (by omega) (by omega) (by omega)⟩
      · refine k_X6_keep_0 hP _ hG ⟨ha, _, mi σ1, b2_iR _, fun _ => ?_, fun z => absurd hyes z⟩
        rw [show (156 : Int) + 52 * (k : Int) = ((156 + 52 * k : Nat) : Int) by omega, Int.toNat_natCast]
        refine ⟨t, b1, ⟨by omega, by omega⟩, ⟨by omega, by omega⟩, ?_⟩
        rw [b3.1 166 (by decide), m2]
        exact hQ
      · show _ = (if i = k then (1 : Int) else I.1 i) ∧ ((if i = k then (1 : Int) else I.1 i) = 1 → _ = (if i = k then s else I.2.1 i) ∧ _ = (if i = k then w else I.2.2 i))
        have z9 : (up2 (up2 (up2 t 168 k s) 169 k 1) 166 3 0) 169 i = if i = k then 1 else σ1 169 i := by
          rw [← b3.1 169 (by decide)]; simp [up2]
        have z8 : (up2 (up2 (up2 t 168 k s) 169 k 1) 166 3 0) 168 i = if i = k then s else σ1 168 i := by
          rw [← b3.1 168 (by decide)]; simp [up2]
        rw [z9, z8, row]
        by_cases hik : i = k
        · subst hik
          simp only [if_true]
          exact ⟨trivial, fun _ => ⟨trivial, b2'⟩⟩
        · simp only [if_neg hik]
          rw [rowt _ (by omega)]
          exact m7 i hi
  · have hno : b2 (0 ≤ a ∧ a ≤ 1) = 0 := b2_f hin
    rw [if_neg hin] at im
    refine pc_mk (-1000000001) hM (by decide) (hok.le (by omega)) ⟨σ, ca_in cd_X5_keep bd_X5_keep rfl (by decide) (Nat.le_of_ble_eq_true rfl) (fun Q P hP hQ => ?_), hc, FrC.rf⟩ (fun σ1 hm => ⟨σ1, ca_in cd_X6_keep bd_X6_keep rfl (by decide) (Nat.le_of_ble_eq_true rfl) (fun Q P hP hQ => ?_), hm, FrM.rf⟩)
    · exact k_X5_keep_0 hP _ hG ⟨_, im, fun z => absurd rfl z, fun _ => hQ⟩
    · exact k_X6_keep_0 hP _ hG ⟨ha, _, mi σ1, b2_iR _, fun z => absurd hno z, fun _ => hQ⟩
theorem pc_goBack {a : Int} (hG : gAll g) (h200 : 10000 ≤ T) (hT : T ≤ 80000) (ha : iR a) : PC g T (T + 60) yX5_goBack yX6_goBack [vI a] := by
  intro σ w H s B I hok hc hM
  obtain ⟨⟨hw, hs⟩, hH, hsd, hB, hI⟩ := id hok
  have h1 := hc.1
  have hcw : wOK T (cv σ 2) := by rw [h1]; exact hw
  have im := c_imAt (d := 58) (g := g) (σ := σ) hG ha
  have mi := fun σ => c_in (d := 58) (g := g) (σ := σ) (a := a) (b := 0) (c := 1) (jRi ha) (by decide) (by decide)
  by_cases hin : 0 ≤ a ∧ a ≤ 1
  · have hyes : ¬ b2 (0 ≤ a ∧ a ≤ 1) = 0 := by rw [b2_t hin]; decide
    obtain ⟨k, rfl⟩ := Int.eq_ofNat_of_zero_le hin.1
    have hk : k < 2 := by omega
    obtain ⟨-, hgi⟩ := im_g hG hk
    rw [if_pos hin, Int.toNat_natCast] at im
    have hIk := hI k hk
    have ck := hc.2.2.2.2.2 k hk
    by_cases hq : I.1 k = 1
    · obtain ⟨hI1, hI2, hI3⟩ := hIk.2 hq
      have ckq := ck.2 hq
      have hokA : aOK T (I.2.2 k) (0, H.2) (I.2.1 k) B I := ⟨⟨hI2, hI3⟩, ⟨Nat.zero_le 20, fun i hi => absurd (show i < 0 from hi) (by omega)⟩, hI1, hB, hI⟩
      refine pc_mk 1 hM (by decide) (hokA.le (by omega)) ?_ (fun σ1 hm => ?_)
      · obtain ⟨g1, g2, g3, g4, g5, g6⟩ := hc
        obtain ⟨t, b1, b2', b3⟩ := c_copyFrom (d := 57) (σ := up2 σ 1 7 (I.2.1 k)) (o := 2) (a := 153 + 7 * k) hG.W_2 (by have := hgi.w; rwa [show 152 + 7 * k + 1 = 153 + 7 * k by omega] at this) (by omega)
        have c2 : cv (up2 σ 1 7 (I.2.1 k)) (153 + 7 * k) = I.2.2 k := by
          rw [← ckq.2]; exact cv_ne (fun f hf => up2_ne (by omega))
        rw [c2] at b2'
        have all : ∀ x, x ≠ 1 → x ≠ 26 → (x < 2 ∨ 7 < x) → (up2 (up2 t 26 0 0) 1 8 0) x = σ x := fun x n1 n2 n3 => by
          rw [up2_ne n1, up2_ne n2, b3 x (by omega), up2_ne n1]
        refine ⟨up2 (up2 t 26 0 0) 1 8 0, ca_in cd_X5_goBack bd_X5_goBack rfl (by decide) (Nat.le_of_ble_eq_true rfl) (fun Q P hP hQ => ?_), ⟨?_, ?_, Or.inl (by simp [up2]), ?_, g5.co (fun x q1 q2 => all x (by omega) (by omega) (by omega)), g6.co (fun x q1 q2 => all x (by omega) (by omega) (by omega))⟩, fun x hx => all x (by omega) (by omega) (by omega)⟩
        · refine k_X5_goBack_0 hP _ hG ⟨_, im, fun _ => ⟨152 + 7 * k, rfl, hgi, ?_⟩, fun z => nomatch z⟩
          rw [ck.1, hq, ckq.1, show 152 + 7 * k + 1 = 153 + 7 * k by omega]
          exact ⟨by decide, fun _ => ⟨t, b1, _, c_forget (d := 58) hG, hQ⟩, fun z => absurd (by decide) z⟩
        · rw [← b2']; exact cv_ne (fun f hf => by rw [up2_ne (by omega), up2_ne (by omega)])
        · have : (up2 (up2 t 26 0 0) 1 8 0) 1 7 = t 1 7 := by simp [up2]
          rw [this, b3 1 (by decide)]
          simp [up2]
        · have ht : hiR t H := g4.co (fun x q1 q2 => by rw [b3 x (by omega), up2_ne (by omega)])
          exact (hiR_0 ht).co (fun x q1 q2 => up2_ne (by omega))
      · obtain ⟨m1, m2, ⟨m3, m4⟩, ⟨m5, m6⟩, m7⟩ := id hm
        have mk := m7 k hk
        have mkq := mk.2 hq
        obtain ⟨t, b1, b2', b3, -⟩ := c_mcopy (d := 58) (σ := σ1) (p := 156 + 52 * k) (q := 0) hG (by omega) (by decide) (by omega)
        rw [mkq.2] at b2'
        have all : ∀ x, x ≠ 166 → x ≠ 167 → (up2 (up2 t 166 4 (I.2.1 k)) 166 3 0) x = σ1 x := fun x n1 n2 => by rw [up2_ne n1, up2_ne n1, b3.1 x n2]
        have row : ∀ r, mv (up2 (up2 t 166 4 (I.2.1 k)) 166 3 0) r = mv t r := fun r => mv_cong (fun i _ => by rw [up2_ne (by decide), up2_ne (by decide)])
        have rowt : ∀ r, 52 ≤ r → mv t r = mv σ1 r := fun r hr => mv_cong (fun i hi => b3.2 _ (by omega))
        refine ⟨up2 (up2 t 166 4 (I.2.1 k)) 166 3 0, ca_in cd_X6_goBack bd_X6_goBack rfl (by decide) (Nat.le_of_ble_eq_true rfl) (fun Q P hP hQ => ?_), ⟨by rw [row]; exact b2', by simp [up2], ⟨by simp [up2], fun i hi => absurd (show i < 0 from hi) (by omega)⟩, ⟨?_, fun i hi => by rw [all 170 (by decide) (by decide), all 171 (by decide) (by decide)]; exact m6 i hi⟩, fun i hi => by rw [all 169 (by decide) (by decide), all 168 (by decide) (by decide), row, rowt _ (by omega)]; exact m7 i hi⟩, fun x hx => all x (by omega) (by omega)⟩
        · refine k_X6_goBack_0 hP _ hG ⟨ha, _, mi σ1, b2_iR _, fun _ => ?_, fun z => absurd hyes z⟩
          rw [show (156 : Int) + 52 * (k : Int) = ((156 + 52 * k : Nat) : Int) by omega, Int.toNat_natCast, mk.1, hq]
          refine ⟨⟨by omega, by omega⟩, by decide, fun _ => ⟨t, b1, ⟨by omega, by omega⟩, ?_⟩, fun z => absurd (by decide) z⟩
          rw [b3.1 168 (by decide), mkq.1]
          exact hQ
        · have : (up2 (up2 t 166 4 (I.2.1 k)) 166 3 0) 166 5 = t 166 5 := by simp [up2]
          rw [this, b3.1 166 (by decide)]
          exact m5
    · have h0 : I.1 k = 0 := by rcases hIk.1 with z | z; exact z; exact absurd z hq
      refine pc_mk (-1000000003) hM (by decide) (hok.le (by omega)) ⟨σ, ca_in cd_X5_goBack bd_X5_goBack rfl (by decide) (Nat.le_of_ble_eq_true rfl) (fun Q P hP hQ => ?_), hc, FrC.rf⟩ (fun σ1 hm => ⟨σ1, ca_in cd_X6_goBack bd_X6_goBack rfl (by decide) (Nat.le_of_ble_eq_true rfl) (fun Q P hP hQ => ?_), hm, FrM.rf⟩)
      · refine k_X5_goBack_0 hP _ hG ⟨_, im, fun _ => ⟨152 + 7 * k, rfl, hgi, ?_⟩, fun z => nomatch z⟩
        rw [ck.1, h0]
        exact ⟨by decide, fun z => absurd rfl z, fun _ => hQ⟩
      · have mk := hm.2.2.2.2 k hk
        refine k_X6_goBack_0 hP _ hG ⟨ha, _, mi σ1, b2_iR _, fun _ => ?_, fun z => absurd hyes z⟩
        rw [Int.toNat_natCast, mk.1, h0]
        exact ⟨⟨by omega, by omega⟩, by decide, fun z => absurd rfl z, fun _ => hQ⟩
  · have hno : b2 (0 ≤ a ∧ a ≤ 1) = 0 := b2_f hin
    rw [if_neg hin] at im
    refine pc_mk (-1000000001) hM (by decide) (hok.le (by omega)) ⟨σ, ca_in cd_X5_goBack bd_X5_goBack rfl (by decide) (Nat.le_of_ble_eq_true rfl) (fun Q P hP hQ => ?_), hc, FrC.rf⟩ (fun σ1 hm => ⟨σ1, ca_in cd_X6_goBack bd_X6_goBack rfl (by decide) (Nat.le_of_ble_eq_true rfl) (fun Q P hP hQ => ?_), hm, FrM.rf⟩)
    · exact k_X5_goBack_0 hP _ hG ⟨_, im, fun z => absurd rfl z, fun _ => hQ⟩
    · exact k_X6_goBack_0 hP _ hG ⟨ha, _, mi σ1, b2_iR _, fun z => absurd hno z, fun _ => hQ⟩
end S10
