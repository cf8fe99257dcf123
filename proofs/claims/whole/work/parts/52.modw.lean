/-! What the model writes; draws -/
section S2
variable {d : Nat} {g : pG} {σ σ2 : pM} {T : Int} {w w2 : Wl} {H : Hs} {s : Int} {B : Bk} {I : Ig}
def shF (σ : pM) (j : Nat) : pM := fun a i => if a = 167 ∧ 260 ≤ i ∧ i < 260 + j then σ 167 (i + 52) else σ a i
theorem shF_0 (σ : pM) : shF σ 0 = σ := by
  funext a i
  unfold shF
  rw [if_neg (by omega)]
theorem shF_s (σ : pM) (j : Nat) : up2 (shF σ j) 167 (260 + j) ((shF σ j) 167 (260 + j + 52)) = shF σ (j + 1) := by
  have e : (shF σ j) 167 (260 + j + 52) = σ 167 (260 + j + 52) := by
    unfold shF
    rw [if_neg (by omega)]
  rw [e]
  funext a i
  unfold up2 shF
  by_cases ha : a = 167
  · subst ha
    rw [if_pos rfl]
    by_cases hi : i = 260 + j
    · rw [if_pos hi, if_pos ⟨rfl, by omega, by omega⟩, hi]
    · rw [if_neg hi]
      by_cases h2 : 260 ≤ i ∧ i < 260 + j
      · rw [if_pos ⟨rfl, h2⟩, if_pos ⟨rfl, by omega, by omega⟩]
      · rw [if_neg (fun z => h2 z.2), if_neg (fun z => by omega)]
  · simp [ha]
theorem c_minds (hG : gAll g) (hm : MI σ w H s B I) (hn : H.1 ≤ 20) : ∃ σ2, Ca (d + 2) yX6_minds [vR (some 166)] g σ [] g σ2 ∧ MI σ2 w (psh w H) s B I ∧ FrM σ σ2 ∧ (∀ i, i < 52 → σ2 167 i = σ 167 i) := by
  obtain ⟨m1, m2, ⟨m3, m4⟩, ⟨m5, m6⟩, m7⟩ := hm
  by_cases h20 : H.1 = 20
  · -- the oldest goes
    obtain ⟨s1, q1, q2, q3, q4⟩ := c_mcopy (d := d) (σ := up2 (shF σ 988) 166 3 19) (p := 0) (q := 1248) hG (by decide) (by decide) (by decide)
    have a0 : ∀ x, x ≠ 166 → x ≠ 167 → (up2 s1 166 3 20) x = σ x := fun x n1 n2 => by
      rw [up2_ne n1, q3.1 x n2, up2_ne n1]
      funext i
      simp [shF, n2]
    have a1 : ∀ i, i ≠ 3 → (up2 s1 166 3 20) 166 i = σ 166 i := fun i hi => by
      have e : (up2 s1 166 3 20) 166 i = s1 166 i := by simp [up2, hi]
      rw [e, q3.1 166 (by decide)]
      simp [up2, hi, shF]
    have a2 : ∀ i, i < 260 → (up2 s1 166 3 20) 167 i = σ 167 i := fun i hi => by
      rw [up2_ne (by decide), q3.2 i (by omega), up2_ne (by decide), shF, if_neg (by omega)]
    have a3 : ∀ i, 260 ≤ i → i < 1248 → (up2 s1 166 3 20) 167 i = σ 167 (i + 52) := fun i h1 h2 => by
      rw [up2_ne (by decide), q3.2 i (by omega), up2_ne (by decide), shF, if_pos ⟨rfl, by omega, by omega⟩]
    refine ⟨up2 s1 166 3 20, ca_in cd_X6_minds bd_X6_minds rfl (by decide) (Nat.le_of_ble_eq_true rfl) (fun Q P hP hQ => ?_), ⟨?_, ?_, ⟨?_, fun i hi => ?_⟩, ⟨?_, fun i hi => ?_⟩, fun i hi => ?_⟩, fun x hx => a0 x (by omega) (by omega), fun i hi => a2 i (by omega)⟩
    · refine k_X6_minds_0 hP hG ⟨by rw [m3]; exact rO (by omega) (by omega), fun z => absurd (by rw [m3]; omega) z, fun _ => ?_⟩
      have loop : ∀ (m n : Nat), n + m = 988 → P 11 [(0, vR (some 166)), (1, vI (n : Int))] [] g (shF σ n) 0 0 := by
        intro m
        induction m with
        | zero =>
          intro n hnm
          obtain rfl : n = 988 := by omega
          have e3 : (shF σ 988) 166 3 - 1 = 19 := by
            have : (shF σ 988) 166 3 = σ 166 3 := by simp [shF]
            rw [this, m3]; omega
          have e4 : (up2 (shF σ 988) 166 3 19) 166 3 = 19 := by simp [up2]
          have e5 : s1 166 3 + 1 = 20 := by
            rw [q3.1 166 (by decide), e4]; rfl
          refine k_X6_minds_11 hP _ hG ⟨by decide, fun _ => ?_, fun z => absurd (by decide) z⟩
          rw [e3, e4]
          refine ⟨s1, q1, ?_⟩
          rw [e5]
          exact hQ
        | succ m ih =>
          intro n hnm
          have hi := ih (n + 1) (by omega)
          refine k_X6_minds_11 hP _ hG ⟨rO (by omega) (by omega), fun z => absurd z (by omega), fun _ => ⟨⟨by omega, by omega⟩, ⟨by omega, by omega⟩, ?_⟩⟩
          rw [show ((260 : Int) + (n : Int) + 52).toNat = 260 + n + 52 by omega, show ((260 : Int) + (n : Int)).toNat = 260 + n by omega, shF_s]
          exact hi
      have h := loop 988 0 rfl
      rw [shF_0] at h
      exact h
    · rw [← m1]; exact mv_cong (fun i hi => a2 _ (by omega))
    · rw [a1 4 (by decide)]; exact m2
    · show (up2 s1 166 3 20) 166 3 = ((min (H.1 + 1) 20 : Nat) : Int)
      rw [h20]
      simp [up2]
    · have hi2 : i < min (H.1 + 1) 20 := hi
      have e20 : min (H.1 + 1) 20 = 20 := by omega
      show mv _ (260 + 52 * (min (H.1 + 1) 20 - 1 - i)) = (if i = 0 then w else H.2 (i - 1))
      rw [e20]
      by_cases h0 : i = 0
      · subst h0
        rw [if_pos rfl, ← m1]
        have r1 : mv (up2 s1 166 3 20) 1248 = mv s1 1248 := mv_cong (fun i _ => by rw [up2_ne (by decide)])
        have r2 : mv (up2 (shF σ 988) 166 3 19) 0 = mv σ 0 := mv_cong (fun i hi => by rw [up2_ne (by decide), shF, if_neg (by omega)])
        rw [show 260 + 52 * (20 - 1 - 0) = 1248 from rfl, r1, q2, r2]
      · rw [if_neg h0, ← m4 (i - 1) (by omega), h20]
        refine mv_cong (fun j hj => ?_)
        rw [a3 _ (by omega) (by omega)]
        congr 1
        omega
    · rw [a1 5 (by decide)]; exact m5
    · rw [a0 170 (by decide) (by decide), a0 171 (by decide) (by decide)]; exact m6 i hi
    · rw [a0 169 (by decide) (by decide), a0 168 (by decide) (by decide), mv_cong (σ2 := up2 s1 166 3 20) (σ := σ) (p := 156 + 52 * i) (q := 156 + 52 * i) (fun j hj => a2 _ (by omega))]
      exact m7 i hi
  · obtain ⟨s1, q1, q2, q3, q4⟩ := c_mcopy (d := d) (σ := σ) (p := 0) (q := 260 + 52 * H.1) hG (by decide) (by omega) (by omega)
    have a0 : ∀ x, x ≠ 166 → x ≠ 167 → (up2 s1 166 3 ((H.1 : Int) + 1)) x = σ x := fun x n1 n2 => by
      rw [up2_ne n1, q3.1 x n2]
    have a1 : ∀ i, i ≠ 3 → (up2 s1 166 3 ((H.1 : Int) + 1)) 166 i = σ 166 i := fun i hi => by
      have e : (up2 s1 166 3 ((H.1 : Int) + 1)) 166 i = s1 166 i := by simp [up2, hi]
      rw [e, q3.1 166 (by decide)]
    have a2 : ∀ i, i < 260 + 52 * H.1 → (up2 s1 166 3 ((H.1 : Int) + 1)) 167 i = σ 167 i := fun i hi => by
      rw [up2_ne (by decide), q3.2 i (by omega)]
    refine ⟨up2 s1 166 3 ((H.1 : Int) + 1), ca_in cd_X6_minds bd_X6_minds rfl (by decide) (Nat.le_of_ble_eq_true rfl) (fun Q P hP hQ => ?_), ⟨?_, ?_, ⟨?_, fun i hi => ?_⟩, ⟨?_, fun i hi => ?_⟩, fun i hi => ?_⟩, fun x hx => a0 x (by omega) (by omega), fun i hi => a2 i (by omega)⟩
    · refine k_X6_minds_0 hP hG ⟨by rw [m3]; exact rO (by omega) (by omega), fun _ => ?_, fun z => absurd (by rw [m3]; omega) z⟩
      rw [m3, show (260 : Int) + 52 * (H.1 : Int) = ((260 + 52 * H.1 : Nat) : Int) by omega]
      refine ⟨s1, q1, ?_⟩
      rw [q3.1 166 (by decide), m3]
      exact hQ
    · rw [← m1]; exact mv_cong (fun i hi => a2 _ (by omega))
    · rw [a1 4 (by decide)]; exact m2
    · show (up2 s1 166 3 ((H.1 : Int) + 1)) 166 3 = ((min (H.1 + 1) 20 : Nat) : Int)
      have : (up2 s1 166 3 ((H.1 : Int) + 1)) 166 3 = (H.1 : Int) + 1 := by simp [up2]
      rw [this]; omega
    · have hi2 : i < min (H.1 + 1) 20 := hi
      have e20 : min (H.1 + 1) 20 = H.1 + 1 := by omega
      show mv _ (260 + 52 * (min (H.1 + 1) 20 - 1 - i)) = (if i = 0 then w else H.2 (i - 1))
      rw [e20]
      by_cases h0 : i = 0
      · subst h0
        have r1 : mv (up2 s1 166 3 ((H.1 : Int) + 1)) (260 + 52 * H.1) = mv s1 (260 + 52 * H.1) := mv_cong (fun i _ => by rw [up2_ne (by decide)])
        rw [if_pos rfl, ← m1, show 260 + 52 * (H.1 + 1 - 1 - 0) = 260 + 52 * H.1 by omega, r1, q2]
      · rw [if_neg h0, ← m4 (i - 1) (by omega), show H.1 + 1 - 1 - i = H.1 - 1 - (i - 1) by omega]
        exact mv_cong (fun j hj => a2 _ (by omega))
    · rw [a1 5 (by decide)]; exact m5
    · rw [a0 170 (by decide) (by decide), a0 171 (by decide) (by decide)]; exact m6 i hi
    · rw [a0 169 (by decide) (by decide), a0 168 (by decide) (by decide), mv_cong (σ2 := up2 s1 166 3 ((H.1 : Int) + 1)) (σ := σ) (p := 156 + 52 * i) (q := 156 + 52 * i) (fun j hj => a2 _ (by omega))]
      exact m7 i hi
def buF (σ : pM) (k : Nat) : pM := fun a i => if a = 167 ∧ 25 ≤ i ∧ i < 25 + k then 1 else if a = 167 ∧ ((34 ≤ i ∧ i < 34 + k) ∨ (43 ≤ i ∧ i < 43 + k)) then -1 else σ a i
theorem buF_0 (σ : pM) : buF σ 0 = σ := by
  funext a i
  unfold buF
  rw [if_neg (by omega), if_neg (by omega)]
theorem buF_s (σ : pM) (k : Nat) (hk : k < 9) : up2 (up2 (up2 (buF σ k) 167 (25 + k) 1) 167 (34 + k) (-1)) 167 (43 + k) (-1) = buF σ (k + 1) := by
  funext a i
  by_cases ha : a = 167
  · subst ha
    unfold up2 buF
    simp only [if_true, true_and]
    by_cases h1 : i = 43 + k
    · rw [if_pos h1, if_neg (by omega), if_pos (by omega)]
    · rw [if_neg h1]
      by_cases h2 : i = 34 + k
      · rw [if_pos h2, if_neg (by omega), if_pos (by omega)]
      · rw [if_neg h2]
        by_cases h3 : i = 25 + k
        · rw [if_pos h3, if_pos (by omega)]
        · rw [if_neg h3]
          have e1 : (25 ≤ i ∧ i < 25 + k) ↔ (25 ≤ i ∧ i < 25 + (k + 1)) := by omega
          have e2 : ((34 ≤ i ∧ i < 34 + k) ∨ (43 ≤ i ∧ i < 43 + k)) ↔ ((34 ≤ i ∧ i < 34 + (k + 1)) ∨ (43 ≤ i ∧ i < 43 + (k + 1))) := by omega
          simp only [e1, e2]
  · simp [up2, buF, ha]
theorem c_mbuilds {a b : Int} (hG : gAll g) : ∃ σ2, Ca (d + 1) yX6_builds [vR (some 166), vI a, vI b] g σ [] g σ2 ∧ mv σ2 0 = rai (mv σ 0) a b ∧ Fm 0 σ σ2 := by
  let s0 : pM := up2 (up2 (up2 (up2 σ 167 0 a) 167 1 b) 167 2 0) 167 3 0
  refine ⟨buF s0 9, ca_in cd_X6_builds bd_X6_builds rfl (by decide) (Nat.le_of_ble_eq_true rfl) (fun Q P hP hQ => ?_), ?_, ?_, ?_⟩
  · refine k_X6_builds_0 hP a b hG ?_
    have loop : ∀ (m n : Nat), n + m = 9 → P 30 [(0, vR (some 166)), (3, vI (n : Int))] [] g (buF s0 n) 0 0 := by
      intro m
      induction m with
      | zero =>
        intro n hn
        obtain rfl : n = 9 := by omega
        exact k_X6_builds_30 hP _ hG ⟨by decide, fun _ => hQ, fun z => absurd (by decide) z⟩
      | succ m ih =>
        intro n hn
        have hi := ih (n + 1) (by omega)
        refine k_X6_builds_30 hP _ hG ⟨rO (by omega) (by omega), fun z => absurd z (by omega), fun _ => ⟨⟨by omega, by omega⟩, ⟨by omega, by omega⟩, ⟨by omega, by omega⟩, ?_⟩⟩
        rw [show ((25 : Int) + (n : Int)).toNat = 25 + n by omega, show ((34 : Int) + (n : Int)).toNat = 34 + n by omega, show ((43 : Int) + (n : Int)).toNat = 43 + n by omega, buF_s s0 n (by omega)]
        exact hi
    have h := loop 9 0 rfl
    rw [buF_0] at h
    exact h
  · have g1 : ∀ i, 4 ≤ i → i < 25 → buF s0 9 167 i = σ 167 i := fun i h1 h2 => by
      show (if _ then _ else if _ then _ else _) = _
      rw [if_neg (by omega), if_neg (by omega)]
      show (up2 (up2 (up2 (up2 σ 167 0 a) 167 1 b) 167 2 0) 167 3 0) 167 i = _
      have n0 : ¬ i = 0 := by omega
      have n1 : ¬ i = 1 := by omega
      have n2 : ¬ i = 2 := by omega
      have n3 : ¬ i = 3 := by omega
      simp [up2, n0, n1, n2, n3]
    funext f j
    by_cases hf : f = 0
    · subst hf
      unfold mv rai fW
      simp only [Nat.zero_add, if_true]
      rcases (show j = 0 ∨ j = 1 ∨ j = 2 ∨ j = 3 ∨ j = 4 ∨ j = 5 ∨ j = 6 ∨ j = 7 ∨ 8 ≤ j by omega) with rfl | rfl | rfl | rfl | rfl | rfl | rfl | rfl | h8
      · rfl
      · rfl
      · rfl
      · rfl
      · exact g1 4 (by decide) (by decide)
      · exact g1 5 (by decide) (by decide)
      · exact g1 6 (by decide) (by decide)
      · rfl
      · have n0 : ¬ j = 0 := by omega
        have n1 : ¬ j = 1 := by omega
        have n2 : ¬ j = 2 := by omega
        have n3 : ¬ j = 3 := by omega
        have n4 : ¬ j = 4 := by omega
        have n5 : ¬ j = 5 := by omega
        have n6 : ¬ j = 6 := by omega
        have n7 : ¬ j = 7 := by omega
        simp [up2, n0, n1, n2, n3, n4, n5, n6, n7]
    · by_cases hv : 1 ≤ f ∧ f ≤ 5 ∧ j < 9
      · rcases (show f = 1 ∨ f = 2 ∨ f = 3 ∨ f = 4 ∨ f = 5 by omega) with rfl | rfl | rfl | rfl | rfl
        · rw [m_nd hv.2.2]
          show (if _ then _ else if _ then _ else _) = _
          rw [if_pos ⟨rfl, by omega, by omega⟩]
          simp [rai, fW, hv.2.2]
        · rw [m_bg hv.2.2]
          show (if _ then _ else if _ then _ else _) = _
          rw [if_neg (by omega), if_pos ⟨rfl, by omega⟩]
          simp [rai, fW, hv.2.2]
        · rw [m_dn hv.2.2]
          show (if _ then _ else if _ then _ else _) = _
          rw [if_neg (by omega), if_pos ⟨rfl, by omega⟩]
          simp [rai, fW, hv.2.2]
        · rw [m_tt hv.2.2, g1 _ (by omega) (by omega)]
          have : rai (mv σ 0) a b 4 j = mv σ 0 4 j := by simp [rai, fW, up2]
          rw [this, m_tt hv.2.2]
        · rw [m_tl hv.2.2, g1 _ (by omega) (by omega)]
          have : rai (mv σ 0) a b 5 j = mv σ 0 5 j := by simp [rai, fW, up2]
          rw [this, m_tl hv.2.2]
      · have e1 : mv (buF s0 9) 0 f j = 0 := by simp [mv, hf, hv]
        have e2 : mv σ 0 f j = 0 := by simp [mv, hf, hv]
        rw [e1, ← e2]
        unfold rai fW up2
        by_cases h3 : f = 3
        · rw [if_pos h3, if_neg (by omega)]; simp [h3]
        · rw [if_neg h3]
          by_cases h2 : f = 2
          · rw [if_pos h2, if_neg (by omega)]; simp [h2]
          · rw [if_neg h2]
            by_cases h1 : f = 1
            · rw [if_pos h1, if_neg (by omega)]; simp [h1]
            · simp [h1, hf]
  · intro x hx
    funext i
    simp [buF, hx]
    show (up2 (up2 (up2 (up2 σ 167 0 a) 167 1 b) 167 2 0) 167 3 0) x i = _
    rw [up2_ne hx, up2_ne hx, up2_ne hx, up2_ne hx]
  · intro i hi
    have hi52 : 52 ≤ i := by omega
    show (if _ then _ else if _ then _ else _) = _
    rw [if_neg (by omega), if_neg (by omega)]
    show (up2 (up2 (up2 (up2 σ 167 0 a) 167 1 b) 167 2 0) 167 3 0) 167 i = _
    have n0 : ¬ i = 0 := by omega
    have n1 : ¬ i = 1 := by omega
    have n2 : ¬ i = 2 := by omega
    have n3 : ¬ i = 3 := by omega
    simp [up2, n0, n1, n2, n3]
theorem c_mcomes {a b : Int} (hG : gAll g) (hw : wOK T (mv σ 0)) (hn : mv σ 0 0 7 < 9) : ∃ σ2, Ca (d + 1) yX6_comes [vR (some 166), vI a, vI b] g σ [] g σ2 ∧ mv σ2 0 = adT (mv σ 0) a b ∧ Fm 0 σ σ2 := by
  have hnt := hw.nt
  have e7 : mv σ 0 0 7 = σ 167 3 := m_nt
  obtain ⟨n, hn2⟩ := Int.eq_ofNat_of_zero_le (show 0 ≤ σ 167 3 by omega)
  have hn9 : n < 9 := by omega
  refine ⟨up2 (up2 (up2 σ 167 (7 + n) a) 167 (16 + n) b) 167 3 ((n : Int) + 1), ca_in cd_X6_comes bd_X6_comes rfl (by decide) (Nat.le_of_ble_eq_true rfl) (fun Q P hP hQ => ?_), ?_, ?_⟩
  · have x1 : (up2 σ 167 (7 + n) a) 167 3 = (n : Int) := by
      have : ¬ 3 = 7 + n := by omega
      simp [up2, this, hn2]
    have x2 : (up2 (up2 σ 167 (7 + n) a) 167 (16 + n) b) 167 3 = (n : Int) := by
      have n1 : ¬ 3 = 7 + n := by omega
      have n2 : ¬ 3 = 16 + n := by omega
      simp [up2, n1, n2, hn2]
    refine k_X6_comes_0 hP a b hG ?_
    rw [hn2, show ((7 : Int) + (n : Int)).toNat = 7 + n by omega, x1, show ((16 : Int) + (n : Int)).toNat = 16 + n by omega, x2]
    exact ⟨⟨by omega, by omega⟩, ⟨by omega, by omega⟩, hQ⟩
  · have u5 := mv_up (σ := up2 σ 167 (7 + n) a) (r := 0) (f := 5) (j := n) (v := b) (by decide) (by decide) hn9
    have u4 := mv_up (σ := σ) (r := 0) (f := 4) (j := n) (v := a) (by decide) (by decide) hn9
    have u0 := mv_up0 (σ := up2 (up2 σ 167 (7 + n) a) 167 (16 + n) b) (r := 0) (i := 3) (j := 7) (v := (n : Int) + 1) (Or.inr (Or.inl ⟨rfl, rfl⟩))
    rw [show 0 + mF 5 + n = 16 + n by simp [mF]] at u5
    rw [show 0 + mF 4 + n = 7 + n by simp [mF]] at u4
    rw [show 0 + 3 = 3 from rfl, u5, u4] at u0
    rw [u0, adT, e7, hn2]
    rfl
  · exact ((Fm.up (by omega)).tr (Fm.up (by omega))).tr (Fm.up (by omega))
/-- the next seed -/
def nx (s : Int) : Int := (s * 1103515245 + 12345) % 2147483648
def dq (s n : Int) : Int := nx s / 65536 % n
theorem nx_bd (s : Int) : 0 ≤ nx s ∧ nx s < 2147483648 := ⟨Int.emod_nonneg _ (by decide), Int.emod_lt_of_pos _ (by decide)⟩
theorem dq_bd (s : Int) {n : Int} (hn : 0 < n) : 0 ≤ dq s n ∧ dq s n < n := ⟨Int.emod_nonneg _ (by omega), Int.emod_lt_of_pos _ hn⟩
theorem MI.seed {v : Int} (hm : MI σ w H s B I) : MI (up2 σ 166 4 v) w H v B I := by
  obtain ⟨m1, m2, ⟨m3, m4⟩, ⟨m5, m6⟩, m7⟩ := hm
  refine ⟨?_, by simp [up2], ⟨?_, fun i hi => ?_⟩, ⟨?_, fun i hi => ?_⟩, fun i hi => ?_⟩
  · rw [← m1]; exact mv_cong (fun i _ => by rw [up2_ne (by decide)])
  · rw [← m3]; simp [up2]
  · rw [← m4 i hi]; exact mv_cong (fun i _ => by rw [up2_ne (by decide)])
  · rw [← m5]; simp [up2]
  · rw [up2_ne (by decide), up2_ne (by decide)]; exact m6 i hi
  · rw [up2_ne (by decide), up2_ne (by decide), mv_cong (σ2 := up2 σ 166 4 v) (σ := σ) (p := 156 + 52 * i) (q := 156 + 52 * i) (fun j _ => by rw [up2_ne (by decide)])]
    exact m7 i hi
theorem CI.seed {v : Int} (hc : CI σ w H s B I) : CI (up2 σ 1 7 v) w H v B I := by
  obtain ⟨h1, h2, h3, h4, h5, h6⟩ := hc
  have all : ∀ x, x ≠ 1 → (up2 σ 1 7 v) x = σ x := fun x hx => up2_ne hx
  refine ⟨?_, by simp [up2], ?_, h4.co (fun x q1 q2 => all x (by omega)), h5.co (fun x q1 q2 => all x (by omega)), h6.co (fun x q1 q2 => all x (by omega))⟩
  · rw [← h1]; exact cv_ne (fun f hf => all _ (by omega))
  · have : (up2 σ 1 7 v) 1 8 = σ 1 8 := by simp [up2]
    rw [this]
    unfold plK
    rw [all 14 (by decide), all (14 + 4) (by decide)]
    exact h3
theorem nx_raw {s : Int} (hs : 0 ≤ s ∧ s < 2147483648) : 0 ≤ s * 1103515245 + 12345 ∧ s * 1103515245 + 12345 < 9000000000000000000 := by omega
theorem c_mdraw {n : Int} (hG : gAll g) (hs : 0 ≤ s ∧ s < 2147483648) (h4 : σ 166 4 = s) (hn : 1 ≤ n ∧ n ≤ 1000) : Ca (d + 1) yX6_draw [vR (some 166), vI n] g σ [vI (dq s n)] g (up2 σ 166 4 (nx s)) := by
  refine ca_in cd_X6_draw bd_X6_draw rfl (by decide) (Nat.le_of_ble_eq_true rfl) (fun Q P hP hQ => ?_)
  have hr := nx_raw hs
  have hb := nx_bd s
  have hm : Int.tmod (s * 1103515245 + 12345) 2147483648 = nx s := Int.tmod_eq_emod_of_nonneg hr.1
  refine k_X6_draw_0 hP n hG ?_
  have e4 : (up2 σ 166 4 (nx s)) 166 4 = nx s := by simp [up2]
  rw [h4, hm, e4, Int.tdiv_eq_ediv_of_nonneg hb.1]
  have hd : 0 ≤ nx s / 65536 ∧ nx s / 65536 ≤ 40000 := by omega
  rw [Int.tmod_eq_emod_of_nonneg hd.1]
  exact ⟨⟨by omega, by omega⟩, ⟨by omega, by omega⟩, hb.1, ⟨by omega, by omega⟩, ⟨rO (by omega) (by omega), rO (by omega) (by omega), by omega⟩, hQ⟩
theorem c_draw {n : Int} (hG : gAll g) (hs : 0 ≤ s ∧ s < 2147483648) (h4 : σ 1 7 = s) (hn : 1 ≤ n ∧ n ≤ 1000) : Ca (d + 1) yX5_draw [vR (some 1), vI n] g σ [vI (dq s n)] g (up2 σ 1 7 (nx s)) := by
  refine ca_in cd_X5_draw bd_X5_draw rfl (by decide) (Nat.le_of_ble_eq_true rfl) (fun Q P hP hQ => ?_)
  have hr := nx_raw hs
  have hb := nx_bd s
  have hm : (((Int.toNat (s * 1103515245 + 12345) &&& Int.toNat 2147483647 : Nat)) : Int) = nx s := by
    rw [show Int.toNat 2147483647 = 2 ^ 31 - 1 from rfl, Nat.and_two_pow_sub_one_eq_mod, Int.natCast_emod, Int.toNat_of_nonneg hr.1]
    rfl
  refine k_X5_draw_0 hP n hG ?_
  have e4 : (up2 σ 1 7 (nx s)) 1 7 = nx s := by simp [up2]
  rw [h4, hm, e4, Int.tdiv_eq_ediv_of_nonneg hb.1]
  have hd : 0 ≤ nx s / 65536 ∧ nx s / 65536 ≤ 40000 := by omega
  rw [Int.tmod_eq_emod_of_nonneg hd.1]
  exact ⟨⟨by omega, by omega⟩, ⟨hr.1, by decide⟩, hb.1, rO (by omega) (by omega), fun _ => ⟨⟨by omega, by omega⟩, ⟨rO (by omega) (by omega), rO (by omega) (by omega), by omega⟩, hQ⟩, fun z => absurd hn.1 z⟩
end S2
