/-! Both sides of a call: deeds, two -/
theorem su_del {f : Nat → Int} {k : Nat} : ∀ m, su (fun j => if j < k then f j else f (j + 1)) (k + m) + f k = su f (k + m + 1)
  | 0 => by
    rw [Nat.add_zero, su, su_cong (g := f) (fun j hj => if_pos hj)]
  | m + 1 => by
    have ih := su_del (f := f) (k := k) m
    rw [show k + (m + 1) = (k + m) + 1 by omega, su, su, if_neg (by omega), ← ih]
    omega
section S8
variable {g : pG} {T : Int}
theorem bro_drp {w : Wl} {k : Nat} (hk : (k : Int) < w 0 7) (t : Int) : bro (drp w k) t = bro w t - (if w 4 k ≤ t then w 5 k else 0) := by
  have e7 : drp w k 0 7 = w 0 7 - 1 := by simp [drp]
  have d := su_del (f := fun j => if w 4 j ≤ t then w 5 j else 0) (k := k) ((w 0 7).toNat - 1 - k)
  rw [show k + ((w 0 7).toNat - 1 - k) + 1 = (w 0 7).toNat by omega, show k + ((w 0 7).toNat - 1 - k) = (w 0 7).toNat - 1 by omega] at d
  have e : bro (drp w k) t = su (fun j => if j < k then (if w 4 j ≤ t then w 5 j else 0) else (if w 4 (j + 1) ≤ t then w 5 (j + 1) else 0)) ((w 0 7).toNat - 1) := by
    unfold bro
    rw [e7, show (w 0 7 - 1).toNat = (w 0 7).toNat - 1 by omega]
    refine su_cong (fun j hj => ?_)
    by_cases hjk : j < k
    · have a4 : drp w k 4 j = w 4 j := by
        have : ¬ k ≤ j := by omega
        simp [drp, this]
      have a5 : drp w k 5 j = w 5 j := by
        have : ¬ k ≤ j := by omega
        simp [drp, this]
      rw [a4, a5, if_pos hjk]
    · have h2 : k ≤ j ∧ (j : Int) + 1 < w 0 7 := by omega
      have a4 : drp w k 4 j = w 4 (j + 1) := by simp [drp, h2]
      have a5 : drp w k 5 j = w 5 (j + 1) := by simp [drp, h2]
      rw [a4, a5, if_neg hjk]
  have e2 : bro w t = su (fun j => if w 4 j ≤ t then w 5 j else 0) (w 0 7).toNat := rfl
  rw [e, e2]
  omega
theorem drp_S {w : Wl} (hs : wS w) {k : Nat} : wS (drp w k) := by
  intro c hc h1 h2
  have e2 : ∀ j, drp w k 2 j = w 2 j := fun j => by simp [drp]
  have e0 : drp w k 0 0 = w 0 0 := by simp [drp]
  rw [e2] at h1
  rw [e0] at h2 ⊢
  rw [e2]
  exact hs c hc h1 h2
theorem drp_used {w : Wl} {k : Nat} : used (drp w k) = used w := by
  unfold used
  refine su_cong (fun c hc => ?_)
  have e2 : drp w k 2 c = w 2 c := by simp [drp]
  have e1 : drp w k 1 c = w 1 c := by simp [drp]
  rw [e1, e2]
def daF (s : pM) (k j : Nat) : pM := fun a i => if a = 167 ∧ ((7 + k ≤ i ∧ i < 7 + j) ∨ (16 + k ≤ i ∧ i < 16 + j)) then s 167 (i + 1) else s a i
theorem daF_k (s : pM) (k : Nat) : daF s k k = s := by
  funext a i
  unfold daF
  rw [if_neg (by omega)]
theorem daF_s (s : pM) {k j : Nat} (hk : k ≤ j) (hj : j < 8) : up2 (up2 (daF s k j) 167 (7 + j) ((daF s k j) 167 (7 + j + 1))) 167 (16 + j) ((up2 (daF s k j) 167 (7 + j) ((daF s k j) 167 (7 + j + 1))) 167 (16 + j + 1)) = daF s k (j + 1) := by
  have x1 : (daF s k j) 167 (7 + j + 1) = s 167 (7 + j + 1) := by
    unfold daF
    rw [if_neg (by omega)]
  have x2 : (up2 (daF s k j) 167 (7 + j) (s 167 (7 + j + 1))) 167 (16 + j + 1) = s 167 (16 + j + 1) := by
    have n1 : ¬ 16 + j + 1 = 7 + j := by omega
    have : (up2 (daF s k j) 167 (7 + j) (s 167 (7 + j + 1))) 167 (16 + j + 1) = (daF s k j) 167 (16 + j + 1) := by simp [up2, n1]
    rw [this]
    unfold daF
    rw [if_neg (by omega)]
  rw [x1, x2]
  funext a i
  by_cases ha : a = 167
  · subst ha
    unfold up2 daF
    simp only [if_true, true_and]
    by_cases h1 : i = 16 + j
    · rw [if_pos h1, if_pos (by omega), h1]
    · rw [if_neg h1]
      by_cases h2 : i = 7 + j
      · rw [if_pos h2, if_pos (by omega), h2]
      · rw [if_neg h2]
        have e : ((7 + k ≤ i ∧ i < 7 + j) ∨ (16 + k ≤ i ∧ i < 16 + j)) ↔ ((7 + k ≤ i ∧ i < 7 + (j + 1)) ∨ (16 + k ≤ i ∧ i < 16 + (j + 1))) := by omega
        simp only [e]
  · simp [up2, daF, ha]
theorem daF_mv {u : pM} {w : Wl} {k n : Nat} (hm : mv u 0 = w) (hn : w 0 7 = (n : Int)) (hk : k < n) (hn9 : n ≤ 9) : mv (daF (up2 u 167 3 ((n : Int) - 1)) k (n - 1)) 0 = drp w k := by
  have lo : ∀ i, i < 7 → i ≠ 3 → daF (up2 u 167 3 ((n : Int) - 1)) k (n - 1) 167 i = u 167 i := fun i h1 h2 => by
    unfold daF
    rw [if_neg (by omega)]
    simp [up2, h2]
  have hi : ∀ i, 25 ≤ i → daF (up2 u 167 3 ((n : Int) - 1)) k (n - 1) 167 i = u 167 i := fun i h1 => by
    unfold daF
    rw [if_neg (by omega)]
    have : ¬ i = 3 := by omega
    simp [up2, this]
  have l3 : daF (up2 u 167 3 ((n : Int) - 1)) k (n - 1) 167 3 = (n : Int) - 1 := by
    unfold daF
    rw [if_neg (by omega)]
    simp [up2]
  subst hm
  have e7 : mv u 0 0 7 = u 167 3 := m_nt
  funext f j
  by_cases hf : f = 0
  · subst hf
    by_cases hj7 : j = 7
    · subst hj7
      rw [m_nt]
      have : drp (mv u 0) k 0 7 = mv u 0 0 7 - 1 := by simp [drp]
      rw [this, hn]
      exact l3
    · have : drp (mv u 0) k 0 j = mv u 0 0 j := by simp [drp, hj7]
      rw [this]
      unfold mv
      simp only [Nat.zero_add, if_true, if_neg hj7]
      rw [lo 0 (by decide) (by decide), lo 1 (by decide) (by decide), lo 2 (by decide) (by decide), lo 4 (by decide) (by decide), lo 5 (by decide) (by decide), lo 6 (by decide) (by decide)]
  · by_cases hv : 1 ≤ f ∧ f ≤ 5 ∧ j < 9
    · rcases (show f = 1 ∨ f = 2 ∨ f = 3 ∨ f = 4 ∨ f = 5 by omega) with rfl | rfl | rfl | rfl | rfl
      · have : drp (mv u 0) k 1 j = mv u 0 1 j := by simp [drp]
        rw [this, m_nd hv.2.2, m_nd hv.2.2, hi _ (by omega)]
      · have : drp (mv u 0) k 2 j = mv u 0 2 j := by simp [drp]
        rw [this, m_bg hv.2.2, m_bg hv.2.2, hi _ (by omega)]
      · have : drp (mv u 0) k 3 j = mv u 0 3 j := by simp [drp]
        rw [this, m_dn hv.2.2, m_dn hv.2.2, hi _ (by omega)]
      · rw [m_tt hv.2.2, Nat.zero_add]
        by_cases hc : k ≤ j ∧ (j : Int) + 1 < mv u 0 0 7
        · have : drp (mv u 0) k 4 j = mv u 0 4 (j + 1) := by simp [drp, hc]
          have n3 : ¬ 7 + j + 1 = 3 := by omega
          rw [this, m_tt (show j + 1 < 9 by omega), daF, if_pos ⟨rfl, by omega⟩]
          simp [up2, n3]
          congr 1
        · have : drp (mv u 0) k 4 j = mv u 0 4 j := by
            have : ¬ ((4 = 4 ∨ 4 = 5) ∧ k ≤ j ∧ (j : Int) + 1 < mv u 0 0 7) := fun z => hc z.2
            unfold drp
            rw [if_neg this]
            rfl
          have n3 : ¬ 7 + j = 3 := by omega
          rw [this, m_tt hv.2.2, daF, if_neg (by omega)]
          simp [up2, n3]
      · rw [m_tl hv.2.2, Nat.zero_add]
        by_cases hc : k ≤ j ∧ (j : Int) + 1 < mv u 0 0 7
        · have : drp (mv u 0) k 5 j = mv u 0 5 (j + 1) := by simp [drp, hc]
          have n3 : ¬ 16 + j + 1 = 3 := by omega
          rw [this, m_tl (show j + 1 < 9 by omega), daF, if_pos ⟨rfl, by omega⟩]
          simp [up2, n3]
          congr 1
        · have : drp (mv u 0) k 5 j = mv u 0 5 j := by
            have : ¬ ((5 = 4 ∨ 5 = 5) ∧ k ≤ j ∧ (j : Int) + 1 < mv u 0 0 7) := fun z => hc z.2
            unfold drp
            rw [if_neg this]
            rfl
          have n3 : ¬ 16 + j = 3 := by omega
          rw [this, m_tl hv.2.2, daF, if_neg (by omega)]
          simp [up2, n3]
    · have e1 : mv (daF (up2 u 167 3 ((n : Int) - 1)) k (n - 1)) 0 f j = 0 := by simp [mv, hf, hv]
      have z : ∀ f j, ¬ f = 0 → ¬ (1 ≤ f ∧ f ≤ 5 ∧ j < 9) → mv u 0 f j = 0 := fun f j h1 h2 => by simp [mv, h1, h2]
      rw [e1]
      unfold drp
      rw [if_neg (fun y => by omega), if_neg (fun y => hf y.1), z f j hf hv]
theorem pc_away {a : Int} (hG : gAll g) (h200 : 10000 ≤ T) (hT : T ≤ 80000) (ha : iR a) : PC g T (T + 60) yX5_away yX6_away [vI a] := by
  intro σ w H s B I hok hc hM
  obtain ⟨⟨hw, hs⟩, hH, hsd, hB, hI⟩ := id hok
  have h1 := hc.1
  have hcw : wOK T (cv σ 2) := by rw [h1]; exact hw
  have hnt := hw.nt
  have htm := hw.tm
  have e7 : σ 2 7 = w 0 7 := by rw [← h1]; exact (cv0 (by decide)).symm
  have isC := c_isTruck (d := 58) (σ := σ) (o := 2) (T := T) (c := a) hG.W_2 hcw ha
  rw [e7] at isC
  have isM : ∀ σ1, MI σ1 w H s B I → Ca 59 yX6_isTruck [vR (some 166), vI a] g σ1 [vI (b2 (0 ≤ a ∧ a < w 0 7))] g σ1 := fun σ1 hm => by
    have := c_misTruck (d := 57) (σ := σ1) (T := T) (c := a) hG (by rw [hm.1]; exact hw) ha
    rw [hm.1] at this
    exact this
  by_cases hina : 0 ≤ a ∧ a < w 0 7
  · have ya : ¬ b2 (0 ≤ a ∧ a < w 0 7) = 0 := by rw [b2_t hina]; decide
    obtain ⟨k, rfl⟩ := Int.eq_ofNat_of_zero_le hina.1
    have hk9 : k < 9 := by omega
    have htr := hw.tr hk9
    obtain ⟨t1, a1, a2, a3⟩ := c_copyFrom (d := 56) (σ := σ) (o := 8) (a := 2) hG.W_8 hG.W_2 (by decide)
    rw [h1] at a2
    have e87 : t1 8 7 = w 0 7 := by rw [← a2]; exact (cv0 (by decide)).symm
    obtain ⟨t2, b1, b2', b3⟩ := c_drop (d := 56) (σ := t1) (o := 8) (T := T) (k := k) hG.W_8 (by rw [a2]; exact hw) (by rw [e87]; exact hina.2)
    rw [a2] at b2'
    have hwt : wOK T (drp w k) := drp_ok hw hina.2
    have hst := c_stock (d := 55) (σ := t2) (o := 8) (T := T) hG.W_8 (by rw [b2']; exact hwt) (by omega)
    have e03 : drp w k 0 3 = w 0 3 := by simp [drp]
    have e07 : drp w k 0 7 = w 0 7 - 1 := by simp [drp]
    rw [b2', drp_used, e03, bro_drp hina.2] at hst
    have hbb := bro_bd hw (w 0 3)
    have hub := used_bd hw
    have swo : Ca 59 yX5_stockWithout [vR (some 1), vI (k : Int)] g σ [vI (bro w (w 0 3) - (if w 4 k ≤ w 0 3 then w 5 k else 0) - used w)] g t2 := ca_in cd_X5_stockWithout bd_X5_stockWithout rfl (by decide) (Nat.le_of_ble_eq_true rfl) (fun Q P hP hQ => k_X5_stockWithout_0 hP _ hG ⟨t1, a1, t2, b1, _, hst, hQ⟩)
    have iv4 : iR (bro w (w 0 3) - (if w 4 k ≤ w 0 3 then w 5 k else 0) - used w) := by split <;> exact rO (by omega) (by omega)
    have all : ∀ x, (x < 8 ∨ 13 < x) → t2 x = σ x := fun x hx => by rw [b3 x (by omega), a3 x (by omega)]
    have hct : CI t2 w H s B I := hc.co (fun x hx => all x (by omega))
    have fct : FrC σ t2 := fun x hx => all x (by omega)
    have en : ((7 : Int) + (k : Int)).toNat = 7 + k := by omega
    have en16 : ((16 : Int) + (k : Int)).toNat = 16 + k := by omega
    have q7 : ∀ σ1, MI σ1 w H s B I → σ1 167 (7 + k) = w 4 k ∧ σ1 167 (16 + k) = w 5 k ∧ σ1 167 2 = w 0 3 ∧ Ca 59 yX6_brought [vR (some 166), vI 0, vI (w 0 3)] g σ1 [vI (bro w (w 0 3))] g σ1 ∧ Ca 59 yX6_used [vR (some 166), vI 0] g σ1 [vI (used w)] g σ1 := fun σ1 hm => by
      have hmw : wOK T (mv σ1 0) := by rw [hm.1]; exact hw
      have hbr := c_mbro (d := 58) (σ := σ1) (r := 0) (T := T) (t := w 0 3) hG hmw (by decide) (rO (by omega) (by omega))
      have hus := c_mused (d := 57) (σ := σ1) (r := 0) (T := T) hG hmw (by omega) (by decide)
      rw [hm.1] at hbr hus
      exact ⟨by rw [← hm.1, m_tt hk9, Nat.zero_add], by rw [← hm.1, m_tl hk9, Nat.zero_add], by rw [← hm.1, m_tm, Nat.zero_add], hbr, hus⟩
    by_cases hq : 0 ≤ bro w (w 0 3) - (if w 4 k ≤ w 0 3 then w 5 k else 0) - used w
    · refine pc_mk (w 0 7 - 1) hM (rO (by omega) (by omega)) (hok.deed (by omega) (hwt.le (by omega)) (drp_S hs)) ?_ (fun σ1 hm => ?_)
      · obtain ⟨t3, d1, d2, d3, d4⟩ := c_bef (d := 55) hG hct hH.1
        have t37 : t3 2 7 = w 0 7 := by rw [← d2.1]; exact (cv0 (by decide)).symm
        obtain ⟨t4, f1, f2, f3⟩ := c_drop (d := 57) (σ := t3) (o := 2) (T := T) (k := k) hG.W_2 (by rw [d2.1]; exact hw) (by rw [t37]; exact hina.2)
        rw [d2.1] at f2
        have t47 : t4 2 7 = w 0 7 - 1 := by rw [← e07, ← f2]; exact (cv0 (by decide)).symm
        refine ⟨t4, ca_in cd_X5_away bd_X5_away rfl (by decide) (Nat.le_of_ble_eq_true rfl) (fun Q P hP hQ => ?_), d2.wall d3 f3 f2, (fct.tr (bef_frC d4)).tr (f3.frC (by decide))⟩
        refine k_X5_away_0 hP _ hG ⟨_, isC, b2_iR _, fun _ => ⟨_, t2, swo, iv4, fun _ => ⟨t3, d1, t4, f1, ?_⟩, fun z => absurd hq z⟩, fun z => absurd ya z⟩
        rw [t47]; exact hQ
      · obtain ⟨g1, g2, g3, g4, g5⟩ := q7 σ1 hm
        obtain ⟨u, v1, v2, v3, v4⟩ := c_minds (d := 57) hG hm hH.1
        obtain ⟨n, hn⟩ := Int.eq_ofNat_of_zero_le hnt.1
        have u3 : u 167 3 = (n : Int) := by rw [← hn, ← v2.1]; exact (m_nt (σ := u) (r := 0)).symm
        have hmv := daF_mv (k := k) v2.1 hn (by omega) (by omega)
        have fm : Fm 0 u (daF (up2 u 167 3 ((n : Int) - 1)) k (n - 1)) := by
          refine ⟨fun x hx => ?_, fun i hi => ?_⟩
          · funext i
            have : (up2 u 167 3 ((n : Int) - 1)) x = u x := up2_ne hx
            simp [daF, hx, this]
          · have : ¬ i = 3 := by omega
            unfold daF
            rw [if_neg (by omega)]
            simp [up2, this]
        refine ⟨_, ca_in cd_X6_away bd_X6_away rfl (by decide) (Nat.le_of_ble_eq_true rfl) (fun Q P hP hQ => ?_), v2.wall fm hmv, v3.tr fm.frM⟩
        have loop : ∀ (m j : Nat), k ≤ j → j + m = n - 1 → P 83 [(0, vR (some 166)), (3, vI (j : Int))] [] g (daF (up2 u 167 3 ((n : Int) - 1)) k j) 0 0 := by
          intro m
          have e3 : ∀ j, daF (up2 u 167 3 ((n : Int) - 1)) k j 167 3 = (n : Int) - 1 := fun j => by
            unfold daF
            rw [if_neg (by omega)]
            simp [up2]
          induction m with
          | zero =>
            intro j hj hjm
            obtain rfl : j = n - 1 := by omega
            refine k_X6_away_83 hP _ hG ?_
            rw [e3]
            refine ⟨rO (by omega) (by omega), rO (by omega) (by omega), fun _ => ?_, fun z => absurd (by omega) z⟩
            rw [hn] at hQ; exact hQ
          | succ m ih =>
            intro j hj hjm
            have hi := ih (j + 1) (by omega) (by omega)
            refine k_X6_away_83 hP _ hG ?_
            rw [e3, show ((7 : Int) + (j : Int) + 1).toNat = 7 + j + 1 by omega, show ((7 : Int) + (j : Int)).toNat = 7 + j by omega, show ((16 : Int) + (j : Int) + 1).toNat = 16 + j + 1 by omega, show ((16 : Int) + (j : Int)).toNat = 16 + j by omega, daF_s _ hj (by omega)]
            exact ⟨rO (by omega) (by omega), rO (by omega) (by omega), fun z => absurd z (by omega), fun _ => ⟨⟨by omega, by omega⟩, ⟨by omega, by omega⟩, ⟨by omega, by omega⟩, ⟨by omega, by omega⟩, hi⟩⟩
        have h83 := loop (n - 1 - k) k (Nat.le_refl k) (by omega)
        rw [daF_k] at h83
        refine k_X6_away_0 hP _ hG ⟨_, isM σ1 hm, b2_iR _, fun _ => ⟨⟨by omega, by omega⟩, ?_⟩, fun z => absurd ya z⟩
        rw [en, en16, g1, g2, g3]
        refine ⟨rO (by omega) (by omega), rO (by omega) (by omega), fun z => ⟨_, g4, _, g5, rO (by omega) (by omega), rO (by omega) (by omega), fun _ => ⟨u, v1, ?_⟩, fun y => ?_⟩, fun z => ⟨⟨by omega, by omega⟩, _, g4, _, g5, rO (by omega) (by omega), rO (by omega) (by omega), fun _ => ⟨u, v1, ?_⟩, fun y => ?_⟩⟩
        · rw [u3]; exact h83
        · rw [if_neg (by omega)] at hq; omega
        · rw [u3]; exact h83
        · rw [if_pos (by omega)] at hq; omega
    · refine pc_mk (-1000000003) hM (by decide) (hok.le (by omega)) ⟨t2, ca_in cd_X5_away bd_X5_away rfl (by decide) (Nat.le_of_ble_eq_true rfl) (fun Q P hP hQ => ?_), hct, fct⟩ (fun σ1 hm => ⟨σ1, ca_in cd_X6_away bd_X6_away rfl (by decide) (Nat.le_of_ble_eq_true rfl) (fun Q P hP hQ => ?_), hm, FrM.rf⟩)
      · exact k_X5_away_0 hP _ hG ⟨_, isC, b2_iR _, fun _ => ⟨_, t2, swo, iv4, fun z => absurd z hq, fun _ => hQ⟩, fun z => absurd ya z⟩
      · obtain ⟨g1, g2, g3, g4, g5⟩ := q7 σ1 hm
        refine k_X6_away_0 hP _ hG ⟨_, isM σ1 hm, b2_iR _, fun _ => ⟨⟨by omega, by omega⟩, ?_⟩, fun z => absurd ya z⟩
        rw [en, en16, g1, g2, g3]
        refine ⟨rO (by omega) (by omega), rO (by omega) (by omega), fun z => ⟨_, g4, _, g5, rO (by omega) (by omega), rO (by omega) (by omega), fun y => ?_, fun _ => hQ⟩, fun z => ⟨⟨by omega, by omega⟩, _, g4, _, g5, rO (by omega) (by omega), rO (by omega) (by omega), fun y => ?_, fun _ => hQ⟩⟩
        · rw [if_neg (by omega)] at hq; omega
        · rw [if_pos (by omega)] at hq; omega
  · have na : b2 (0 ≤ a ∧ a < w 0 7) = 0 := b2_f hina
    refine pc_mk (-1000000001) hM (by decide) (hok.le (by omega)) ⟨σ, ca_in cd_X5_away bd_X5_away rfl (by decide) (Nat.le_of_ble_eq_true rfl) (fun Q P hP hQ => ?_), hc, FrC.rf⟩ (fun σ1 hm => ⟨σ1, ca_in cd_X6_away bd_X6_away rfl (by decide) (Nat.le_of_ble_eq_true rfl) (fun Q P hP hQ => ?_), hm, FrM.rf⟩)
    · exact k_X5_away_0 hP _ hG ⟨_, isC, b2_iR _, fun z => absurd na z, fun _ => hQ⟩
    · exact k_X6_away_0 hP _ hG ⟨_, isM σ1 hm, b2_iR _, fun z => absurd na z, fun _ => hQ⟩
theorem ned_ok {w : Wl} (hw : wOK T w) {c : Nat} {v : Int} (hc : c < 9) (h2 : w 2 c = -1) (hv : 1 ≤ v ∧ v ≤ 3) : wOK T (up2 w 1 c v) := by
  obtain ⟨h1, h2', h3, h4, h5, h6, h7, h8, h9, h10, h11⟩ := hw
  refine ⟨h1, h2', h3, h4, h5, h6, h7, h8, h9, fun j hj => ?_, fun j hj => ?_⟩
  · by_cases hjc : j = c
    · have : up2 w 1 c v 1 j = v := by simp [up2, hjc]
      rw [this]; exact hv
    · have : up2 w 1 c v 1 j = w 1 j := by simp [up2, hjc]
      rw [this]; exact h10 j hj
  · have q := h11 j hj
    by_cases hjc : j = c
    · subst hjc
      refine Or.inl ⟨h2, ?_⟩
      show w 3 j = -1
      omega
    · have : up2 w 1 c v 1 j = w 1 j := by simp [up2, hjc]
      rw [this]; exact q
theorem ned_S {w : Wl} (hs : wS w) {c : Nat} {v : Int} : wS (up2 w 1 c v) := hs
theorem pc_need {a b : Int} (hG : gAll g) (h200 : 10000 ≤ T) (hT : T ≤ 80000) (ha : iR a) (hb : iR b) : PC g T (T + 60) yX5_need yX6_need [vI a, vI b] := by
  intro σ w H s B I hok hc hM
  obtain ⟨⟨hw, hs⟩, hH, hsd, hB, hI⟩ := id hok
  have h1 := hc.1
  have hcw : wOK T (cv σ 2) := by rw [h1]; exact hw
  have hcl := hw.cells
  have e2 : σ 2 2 = w 0 2 := by rw [← h1]; exact (cv0 (by decide)).symm
  have isC := c_isCell (d := 58) (σ := σ) (o := 2) (T := T) (c := a) hG.W_2 hcw ha
  rw [e2] at isC
  have isM : ∀ σ1, MI σ1 w H s B I → Ca 59 yX6_isCell [vR (some 166), vI a] g σ1 [vI (b2 (0 ≤ a ∧ a < w 0 2))] g σ1 := fun σ1 hm => by
    have := c_misCell (d := 57) (σ := σ1) (T := T) (c := a) hG (by rw [hm.1]; exact hw) ha
    rw [hm.1] at this
    exact this
  by_cases hina : 0 ≤ a ∧ a < w 0 2
  · have ya : ¬ b2 (0 ≤ a ∧ a < w 0 2) = 0 := by rw [b2_t hina]; decide
    obtain ⟨c, rfl⟩ := Int.eq_ofNat_of_zero_le hina.1
    have hc9 : c < 9 := by omega
    have wb := c_within (d := 58) (g := g) (σ := σ) (a := b) (b := 1) (c := 3) hb (by decide) (by decide)
    have mb := fun σ => c_in (d := 58) (g := g) (σ := σ) (a := b) (b := 1) (c := 3) (jRi hb) (by decide) (by decide)
    by_cases hinb : 1 ≤ b ∧ b ≤ 3
    · have yb : ¬ b2 (1 ≤ b ∧ b ≤ 3) = 0 := by rw [b2_t hinb]; decide
      have ip := c_isPn (d := 58) (σ := σ) (o := 2) (T := T) (c := c) hG.W_2 hcw (by omega) hc9
      rw [h1] at ip
      have im : ∀ σ1, MI σ1 w H s B I → Ca 59 yX6_isPoured [vR (some 166), vI 0, vI (c : Int)] g σ1 [vI (b2 (¬ w 2 c = -1))] g σ1 := fun σ1 hm => by
        have := c_mP (d := 58) (σ := σ1) (r := 0) (T := T) (c := c) hG (by rw [hm.1]; exact hw) (by omega) (by decide) hc9
        rw [hm.1] at this
        exact this
      have hnd := hw.nd hc9
      have x3 : σ 3 c = w 1 c := by rw [← h1]; exact (cv1 (σ := σ) (o := 2) hc9).symm
      have en : ((25 : Int) + (c : Int)).toNat = 25 + c := by omega
      by_cases hp : w 2 c = -1
      · have np : b2 (¬ w 2 c = -1) = 0 := b2_f (fun z => z hp)
        refine pc_mk (w 1 c) hM (rO (by omega) (by omega)) (hok.deed (by omega) ((ned_ok hw hc9 hp hinb).le (by omega)) (ned_S hs)) ?_ (fun σ1 hm => ?_)
        · obtain ⟨t, d1, d2, d3, d4⟩ := c_bef (d := 55) hG hc hH.1
          refine ⟨up2 t 3 c b, ca_in cd_X5_need bd_X5_need rfl (by decide) (Nat.le_of_ble_eq_true rfl) (fun Q P hP hQ => ?_), d2.wall d3 (Fr.up (o := 2) (f := 1) (by decide)) ?_, (bef_frC d4).tr (fun x hx => up2_ne (by omega))⟩
          · refine k_X5_need_0 hP _ _ hG ⟨_, isC, b2_iR _, fun _ => ⟨_, wb, b2_iR _, fun _ => ⟨_, ip, b2_iR _, fun _ => ⟨⟨by omega, by omega⟩, t, d1, ⟨by omega, by omega⟩, ?_⟩, fun z => absurd np z⟩, fun z => absurd yb z⟩, fun z => absurd ya z⟩
            rw [Int.toNat_natCast, x3]; exact hQ
          · have := cv_up (σ := t) (o := 2) (f := 1) (j := c) (v := b) (Or.inr ⟨by decide, by decide, hc9⟩)
            rw [d2.1] at this
            exact this
        · obtain ⟨t, d1, d2, d3, d4⟩ := c_minds (d := 57) hG hm hH.1
          have e25 : t 167 (25 + c) = w 1 c := by rw [← d2.1, m_nd hc9, Nat.zero_add]
          refine ⟨up2 t 167 (25 + c) b, ca_in cd_X6_need bd_X6_need rfl (by decide) (Nat.le_of_ble_eq_true rfl) (fun Q P hP hQ => ?_), d2.wall (Fm.up (by omega)) ?_, d3.tr (fun x hx => up2_ne (by omega))⟩
          · refine k_X6_need_0 hP _ _ hG ⟨_, isM σ1 hm, b2_iR _, fun _ => ⟨hb, _, mb σ1, b2_iR _, fun _ => ⟨_, im σ1 hm, b2_iR _, fun _ => ⟨t, d1, ⟨by omega, by omega⟩, ⟨by omega, by omega⟩, ?_⟩, fun z => absurd np z⟩, fun z => absurd yb z⟩, fun z => absurd ya z⟩
            rw [en, e25]; exact hQ
          · have := mv_up (σ := t) (r := 0) (f := 1) (j := c) (v := b) (by decide) (by decide) hc9
            rw [d2.1, show 0 + mF 1 + c = 25 + c by simp [mF]] at this
            exact this
      · have yp : ¬ b2 (¬ w 2 c = -1) = 0 := by rw [b2_t hp]; decide
        refine pc_mk (-1000000003) hM (by decide) (hok.le (by omega)) ⟨σ, ca_in cd_X5_need bd_X5_need rfl (by decide) (Nat.le_of_ble_eq_true rfl) (fun Q P hP hQ => ?_), hc, FrC.rf⟩ (fun σ1 hm => ⟨σ1, ca_in cd_X6_need bd_X6_need rfl (by decide) (Nat.le_of_ble_eq_true rfl) (fun Q P hP hQ => ?_), hm, FrM.rf⟩)
        · exact k_X5_need_0 hP _ _ hG ⟨_, isC, b2_iR _, fun _ => ⟨_, wb, b2_iR _, fun _ => ⟨_, ip, b2_iR _, fun z => absurd z yp, fun _ => hQ⟩, fun z => absurd yb z⟩, fun z => absurd ya z⟩
        · exact k_X6_need_0 hP _ _ hG ⟨_, isM σ1 hm, b2_iR _, fun _ => ⟨hb, _, mb σ1, b2_iR _, fun _ => ⟨_, im σ1 hm, b2_iR _, fun z => absurd z yp, fun _ => hQ⟩, fun z => absurd yb z⟩, fun z => absurd ya z⟩
    · have nb : b2 (1 ≤ b ∧ b ≤ 3) = 0 := b2_f hinb
      refine pc_mk (-1000000002) hM (by decide) (hok.le (by omega)) ⟨σ, ca_in cd_X5_need bd_X5_need rfl (by decide) (Nat.le_of_ble_eq_true rfl) (fun Q P hP hQ => ?_), hc, FrC.rf⟩ (fun σ1 hm => ⟨σ1, ca_in cd_X6_need bd_X6_need rfl (by decide) (Nat.le_of_ble_eq_true rfl) (fun Q P hP hQ => ?_), hm, FrM.rf⟩)
      · exact k_X5_need_0 hP _ _ hG ⟨_, isC, b2_iR _, fun _ => ⟨_, wb, b2_iR _, fun z => absurd nb z, fun _ => hQ⟩, fun z => absurd ya z⟩
      · exact k_X6_need_0 hP _ _ hG ⟨_, isM σ1 hm, b2_iR _, fun _ => ⟨hb, _, mb σ1, b2_iR _, fun z => absurd nb z, fun _ => hQ⟩, fun z => absurd ya z⟩
  · have na : b2 (0 ≤ a ∧ a < w 0 2) = 0 := b2_f hina
    refine pc_mk (-1000000001) hM (by decide) (hok.le (by omega)) ⟨σ, ca_in cd_X5_need bd_X5_need rfl (by decide) (Nat.le_of_ble_eq_true rfl) (fun Q P hP hQ => ?_), hc, FrC.rf⟩ (fun σ1 hm => ⟨σ1, ca_in cd_X6_need bd_X6_need rfl (by decide) (Nat.le_of_ble_eq_true rfl) (fun Q P hP hQ => ?_), hm, FrM.rf⟩)
    · exact k_X5_need_0 hP _ _ hG ⟨_, isC, b2_iR _, fun z => absurd na z, fun _ => hQ⟩
    · exact k_X6_need_0 hP _ _ hG ⟨_, isM σ1 hm, b2_iR _, fun z => absurd na z, fun _ => hQ⟩
end S8
