/-! The model's rows, one -/
theorem m_st {σ : pM} {r : Nat} : mv σ r 0 0 = σ 167 r := by simp [mv]
theorem m_ly {σ : pM} {r : Nat} : mv σ r 0 1 = σ 167 (r + 1) := by simp [mv]
theorem m_cl {σ : pM} {r : Nat} : mv σ r 0 2 = σ 167 r * σ 167 (r + 1) := by simp [mv]
theorem m_tm {σ : pM} {r : Nat} : mv σ r 0 3 = σ 167 (r + 2) := by simp [mv]
theorem m_ag {σ : pM} {r : Nat} : mv σ r 0 4 = σ 167 (r + 4) := by simp [mv]
theorem m_hv {σ : pM} {r : Nat} : mv σ r 0 5 = σ 167 (r + 5) := by simp [mv]
theorem m_lg {σ : pM} {r : Nat} : mv σ r 0 6 = σ 167 (r + 6) := by simp [mv]
theorem m_nt {σ : pM} {r : Nat} : mv σ r 0 7 = σ 167 (r + 3) := by simp [mv]
theorem m_nd {σ : pM} {r c : Nat} (h : c < 9) : mv σ r 1 c = σ 167 (r + 25 + c) := by simp [mv, mF, h]
theorem m_bg {σ : pM} {r c : Nat} (h : c < 9) : mv σ r 2 c = σ 167 (r + 34 + c) := by simp [mv, mF, h]
theorem m_dn {σ : pM} {r c : Nat} (h : c < 9) : mv σ r 3 c = σ 167 (r + 43 + c) := by simp [mv, mF, h]
theorem m_tt {σ : pM} {r c : Nat} (h : c < 9) : mv σ r 4 c = σ 167 (r + 7 + c) := by simp [mv, mF, h]
theorem m_tl {σ : pM} {r c : Nat} (h : c < 9) : mv σ r 5 c = σ 167 (r + 16 + c) := by simp [mv, mF, h]
section M1
variable {d : Nat} {g : pG} {σ : pM} {r : Nat} {T : Int}
theorem c_in {a b c : Int} (ha : jR a) (hb : jR b) (hc : jR c) : Ca (d + 1) yX6_in [vJ a, vJ b, vJ c] g σ [vI (b2 (b ≤ a ∧ a ≤ c))] g σ := by
  refine ca_in cd_X6_in bd_X6_in rfl (by decide) (Nat.le_of_ble_eq_true rfl) (fun Q P hP hQ => ?_)
  refine k_X6_in_0 hP a b c ?_
  have i1 : iR (if b < a then 1 else if a = b then 0 else -1) := by split; decide; split <;> decide
  have i2 : iR (if c < a then 1 else if a = c then 0 else -1) := by split; decide; split <;> decide
  refine ⟨⟨ha, hb⟩, i1, fun h => ?_, fun h => ⟨⟨ha, hc⟩, i2, fun h2 => ?_, fun h2 => ?_⟩⟩
  · have : ¬ (b ≤ a ∧ a ≤ c) := by
      intro q
      split at h
      · exact absurd h (by decide)
      · split at h
        · exact absurd h (by decide)
        · omega
    rwa [b2_f this] at hQ
  · have : ¬ (b ≤ a ∧ a ≤ c) := by
      intro q
      split at h2
      · omega
      · split at h2 <;> exact absurd h2 (by decide)
    rwa [b2_f this] at hQ
  · have : b ≤ a ∧ a ≤ c := by
      constructor
      · split at h
        · omega
        · split at h
          · omega
          · exact absurd (by decide) h
      · split at h2
        · exact absurd (by decide) h2
        · omega
    rwa [b2_t this] at hQ
theorem jRi {x : Int} (h : iR x) : jR x := ⟨by have := h.1; omega, by have := h.2; omega⟩
theorem c_mcells (hG : gAll g) : Ca (d + 1) yX6_cells [vR (some 166)] g σ [vI (mv σ 0 0 2)] g σ :=
  ca_in cd_X6_cells bd_X6_cells rfl (by decide) (Nat.le_of_ble_eq_true rfl) (fun Q P hP hQ => k_X6_cells_0 hP hG (by rw [m_cl] at hQ; exact hQ))
theorem c_misCell {c : Int} (hG : gAll g) (hw : wOK T (mv σ 0)) (hc : iR c) : Ca (d + 2) yX6_isCell [vR (some 166), vI c] g σ [vI (b2 (0 ≤ c ∧ c < mv σ 0 0 2))] g σ := by
  refine ca_in cd_X6_isCell bd_X6_isCell rfl (by decide) (Nat.le_of_ble_eq_true rfl) (fun Q P hP hQ => ?_)
  have hb := hw.cells
  refine k_X6_isCell_0 hP c hG ⟨hc, _, c_mcells (d := d) hG, rO (by omega) (by omega), _, c_in (d := d) (jRi hc) (by decide) (jRi (rO (by omega) (by omega))), b2_01 _, ?_⟩
  have e : (0 ≤ c ∧ c ≤ mv σ 0 0 2 - 1) ↔ (0 ≤ c ∧ c < mv σ 0 0 2) := by omega
  simp only [b2, e] at hQ ⊢
  exact hQ
theorem c_misTruck {c : Int} (hG : gAll g) (hw : wOK T (mv σ 0)) (hc : iR c) : Ca (d + 2) yX6_isTruck [vR (some 166), vI c] g σ [vI (b2 (0 ≤ c ∧ c < mv σ 0 0 7))] g σ := by
  refine ca_in cd_X6_isTruck bd_X6_isTruck rfl (by decide) (Nat.le_of_ble_eq_true rfl) (fun Q P hP hQ => ?_)
  have hb := hw.nt
  rw [m_nt, Nat.zero_add] at hb
  rw [m_nt, Nat.zero_add] at hQ
  refine k_X6_isTruck_0 hP c hG ⟨hc, rO (by omega) (by omega), _, c_in (d := d) (jRi hc) (by decide) (jRi (rO (by omega) (by omega))), b2_01 _, ?_⟩
  have e : (0 ≤ c ∧ c ≤ σ 167 3 - 1) ↔ (0 ≤ c ∧ c < σ 167 3) := by omega
  simp only [b2, e] at hQ ⊢
  exact hQ
theorem dn_bg {w : Wl} (hw : wOK T w) {c : Nat} (hc : c < 9) : w 3 c = -1 ↔ w 2 c = -1 := by
  have h1 := hw.bd hc
  have h2 := hw.nd hc
  omega
theorem wb3 {w : Wl} (hw : wOK T w) {c : Nat} (hc : c < 9) : (-1 ≤ w 2 c ∧ w 2 c ≤ T) ∧ (-1 ≤ w 3 c ∧ w 3 c ≤ T) := by
  have h1 := hw.bd hc
  have h2 := hw.nd hc
  have h3 := hw.tm
  omega
theorem c_mP {c : Nat} (hG : gAll g) (hw : wOK T (mv σ r)) (hT : T ≤ 1000000) (hr : r + 52 ≤ 1300) (hc : c < 9) : Ca (d + 1) yX6_isPoured [vR (some 166), vI (r : Int), vI (c : Int)] g σ [vI (b2 (¬ mv σ r 2 c = -1))] g σ := by
  refine ca_in cd_X6_isPoured bd_X6_isPoured rfl (by decide) (Nat.le_of_ble_eq_true rfl) (fun Q P hP hQ => ?_)
  have h1 := dn_bg hw hc
  have h2 := wb3 hw hc
  rw [m_dn hc] at h1 h2
  refine k_X6_isPoured_0 hP _ _ hG ?_
  rw [show ((r : Int) + 43 + (c : Int)).toNat = r + 43 + c by omega]
  refine ⟨⟨by omega, by omega⟩, rO (by omega) (by omega), fun h => ?_, fun h => ?_⟩
  · rwa [b2_f (fun q => q (h1.mp h))] at hQ
  · rwa [b2_t (show ¬ mv σ r 2 c = -1 from fun q => h (h1.mpr q))] at hQ
theorem c_mused (hG : gAll g) (hw : wOK T (mv σ r)) (hT : T ≤ 1000000) (hr : r + 52 ≤ 1300) : Ca (d + 2) yX6_used [vR (some 166), vI (r : Int)] g σ [vI (used (mv σ r))] g σ := by
  refine ca_in cd_X6_used bd_X6_used rfl (by decide) (Nat.le_of_ble_eq_true rfl) (fun Q P hP hQ => ?_)
  refine k_X6_used_0 hP _ hG ?_
  have loop : ∀ (m n : Nat), n + m = 9 → P 4 [(0, vR (some 166)), (1, vI (r : Int)), (2, vI (su (fU (mv σ r)) n)), (3, vI (n : Int))] [] g σ 0 0 := by
    intro m
    induction m with
    | zero =>
      intro n hn
      refine k_X6_used_4 hP _ _ _ hG ⟨rO (by omega) (by omega), fun _ => ?_, fun h => absurd (by omega) h⟩
      rw [show n = 9 by omega]
      exact hQ
    | succ m ih =>
      intro n hn
      have h9 : n < 9 := by omega
      have hi := ih (n + 1) (by omega)
      rw [su] at hi
      refine k_X6_used_4 hP _ _ _ hG ⟨rO (by omega) (by omega), fun h => absurd h (by omega), fun _ => ⟨_, c_mP hG hw hT hr h9, b2_iR _, fun h => ?_, fun h => ⟨⟨by omega, by omega⟩, ?_⟩⟩⟩
      · rw [fU, if_pos (Decidable.not_not.mp (b2_0 h))] at hi
        exact hi
      · rw [show fU (mv σ r) n = mv σ r 1 n from if_neg (b2_1 h), m_nd h9] at hi
        rw [show ((r : Int) + 25 + (n : Int)).toNat = r + 25 + n by omega]
        exact hi
  exact loop 9 0 rfl
theorem c_mbro {t : Int} (hG : gAll g) (hw : wOK T (mv σ r)) (hr : r + 52 ≤ 1300) (ht : iR t) : Ca (d + 1) yX6_brought [vR (some 166), vI (r : Int), vI t] g σ [vI (bro (mv σ r) t)] g σ := by
  refine ca_in cd_X6_brought bd_X6_brought rfl (by decide) (Nat.le_of_ble_eq_true rfl) (fun Q P hP hQ => ?_)
  have hn := hw.nt
  rw [m_nt] at hn
  have e7 : mv σ r 0 7 = σ 167 (r + 3) := m_nt
  have ei : ((r : Int) + 3).toNat = r + 3 := by omega
  refine k_X6_brought_0 hP _ t hG ?_
  have loop : ∀ (m n : Nat), (n : Int) + m = σ 167 (r + 3) → P 5 [(0, vR (some 166)), (1, vI (r : Int)), (2, vI t), (3, vI (su (fB (mv σ r) t) n)), (4, vI (n : Int))] [] g σ 0 0 := by
    intro m
    induction m with
    | zero =>
      intro n hnm
      refine k_X6_brought_5 hP _ _ _ _ hG ?_
      rw [ei]
      refine ⟨⟨by omega, by omega⟩, rO (by omega) (by omega), rO (by omega) (by omega), fun _ => ?_, fun h => absurd (by omega) h⟩
      have e : bro (mv σ r) t = su (fB (mv σ r) t) n := by
        rw [show n = (mv σ r 0 7).toNat by omega]; rfl
      rw [e] at hQ
      exact hQ
    | succ m ih =>
      intro n hnm
      have h9 : n < 9 := by omega
      have hi := ih (n + 1) (by omega)
      have hb := hw.tr h9
      rw [m_tt h9] at hb
      rw [su, fB, m_tt h9] at hi
      refine k_X6_brought_5 hP _ _ _ _ hG ?_
      rw [ei, show ((r : Int) + 7 + (n : Int)).toNat = r + 7 + n by omega, show ((r : Int) + 16 + (n : Int)).toNat = r + 16 + n by omega]
      refine ⟨⟨by omega, by omega⟩, rO (by omega) (by omega), rO (by omega) (by omega), fun h => absurd h (by omega), fun _ => ⟨⟨by omega, by omega⟩, rO (by omega) (by omega), ht, fun h => ?_, fun h => ⟨⟨by omega, by omega⟩, ?_⟩⟩⟩
      · rw [if_neg (by omega)] at hi
        exact hi
      · rw [if_pos (by omega), m_tl h9] at hi
        exact hi
  exact loop (σ 167 (r + 3)).toNat 0 (by omega)
/-- when a cell would begin: the model's way -/
def mB (w : Wl) (n : Int) : Nat → Int
  | 0 => 99999
  | k + 1 => if w 0 3 < w 4 k ∧ w 4 k < mB w n k ∧ n ≤ bro w (w 4 k) then w 4 k else mB w n k
theorem bro_mono {w : Wl} (hw : wOK T w) {a b : Int} (h : a ≤ b) : bro w a ≤ bro w b := by
  have hn := hw.nt
  unfold bro
  have key : ∀ n : Nat, n ≤ 9 → su (fun k => if w 4 k ≤ a then w 5 k else 0) n ≤ su (fun k => if w 4 k ≤ b then w 5 k else 0) n := by
    intro n
    induction n with
    | zero => intro _; exact Int.le_refl _
    | succ n ih =>
      intro h9
      have := ih (by omega)
      have := hw.tr (k := n) (by omega)
      rw [su, su]
      split <;> split <;> omega
  exact key _ (by omega)
theorem bro_ex {w : Wl} (hw : wOK T w) {n : Int} (hn : 1 ≤ n) : ∀ t : Nat, n ≤ bro w (t : Int) → ∃ j, j < (w 0 7).toNat ∧ w 4 j ≤ (t : Int) ∧ n ≤ bro w (w 4 j)
  | 0, h => by
    have hnt := hw.nt
    rcases Classical.em (∃ j, j < (w 0 7).toNat ∧ w 4 j = 0) with ⟨j, h1, h2⟩ | h1
    · exact ⟨j, h1, by omega, by rw [h2]; exact h⟩
    · have e : bro w ((0 : Nat) : Int) = su (fun _ => 0) (w 0 7).toNat := su_cong (fun k hk => by
        have := hw.tr (k := k) (by omega)
        have : ¬ w 4 k = 0 := fun q => h1 ⟨k, hk, q⟩
        rw [if_neg (by omega)])
      have e2 : ∀ m : Nat, su (fun _ => 0) m = 0 := by
        intro m
        induction m with
        | zero => rfl
        | succ m ih => rw [su, ih]; rfl
      rw [e, e2] at h
      omega
  | t + 1, h => by
    have hnt := hw.nt
    rcases Classical.em (∃ j, j < (w 0 7).toNat ∧ w 4 j = ((t + 1 : Nat) : Int)) with ⟨j, h1, h2⟩ | h1
    · exact ⟨j, h1, by omega, by rw [h2]; exact h⟩
    · have e : bro w ((t + 1 : Nat) : Int) = bro w (t : Int) := su_cong (fun k hk => by
        have h2 : ¬ w 4 k = ((t + 1 : Nat) : Int) := fun q => h1 ⟨k, hk, q⟩
        have h3 : w 4 k ≤ ((t + 1 : Nat) : Int) ↔ w 4 k ≤ (t : Int) := by omega
        simp only [h3])
      rw [e] at h
      obtain ⟨j, h3, h4, h5⟩ := bro_ex hw hn t h
      exact ⟨j, h3, by omega, h5⟩
theorem bAt_in (w : Wl) (n : Int) : ∀ k, bAt w n k = -1 ∨ ∃ j, j < k ∧ bAt w n k = w 4 j ∧ n ≤ bro w (w 4 j)
  | 0 => Or.inl rfl
  | k + 1 => by
    unfold bAt
    split
    · rename_i h
      exact Or.inr ⟨k, by omega, rfl, h.2⟩
    · rcases bAt_in w n k with h | ⟨j, h1, h2, h3⟩
      · exact Or.inl h
      · exact Or.inr ⟨j, by omega, h2, h3⟩
theorem bAt_le {w : Wl} (n : Int) : ∀ k, (∀ j, j < k → 0 ≤ w 4 j) → ∀ j, j < k → n ≤ bro w (w 4 j) → 0 ≤ bAt w n k ∧ bAt w n k ≤ w 4 j
  | 0, _, j, h, _ => by omega
  | k + 1, h0, j, hj, hn => by
    have hk := h0 k (by omega)
    unfold bAt
    by_cases hjk : j = k
    · subst hjk
      split
      · omega
      · rename_i h
        rcases bAt_in w n j with h2 | ⟨i, h2, h3, h4⟩
        · exact absurd ⟨Or.inl h2, hn⟩ h
        · have := h0 i (by omega)
          have : ¬ w 4 j < bAt w n j := fun q => h ⟨Or.inr q, hn⟩
          omega
    · have ih := bAt_le (w := w) n k (fun i hi => h0 i (by omega)) j (by omega) hn
      split
      · rename_i h
        omega
      · exact ih
theorem mB_in (w : Wl) (n : Int) : ∀ k, mB w n k = 99999 ∨ ∃ j, j < k ∧ mB w n k = w 4 j ∧ w 0 3 < w 4 j ∧ n ≤ bro w (w 4 j)
  | 0 => Or.inl rfl
  | k + 1 => by
    unfold mB
    split
    · rename_i h
      exact Or.inr ⟨k, by omega, rfl, h.1, h.2.2⟩
    · rcases mB_in w n k with h | ⟨j, h1, h2, h3⟩
      · exact Or.inl h
      · exact Or.inr ⟨j, by omega, h2, h3⟩
theorem mB_le {w : Wl} (n : Int) : ∀ k j, j < k → w 0 3 < w 4 j → n ≤ bro w (w 4 j) → mB w n k ≤ w 4 j
  | 0, j, h, _, _ => by omega
  | k + 1, j, hj, ht, hn => by
    unfold mB
    by_cases hjk : j = k
    · subst hjk
      split
      · omega
      · rename_i h
        have : ¬ w 4 j < mB w n j := fun q => h ⟨ht, q, hn⟩
        omega
    · have ih := mB_le (w := w) n k j (by omega) ht hn
      split
      · omega
      · exact ih
theorem begin_eq {w : Wl} (hw : wOK T w) {n : Int} (hn : 1 ≤ n) : (if bAt w n (w 0 7).toNat = -1 then -1 else max (w 0 3) (bAt w n (w 0 7).toNat)) = (if n ≤ bro w (w 0 3) then w 0 3 else if mB w n (w 0 7).toNat = 99999 then -1 else mB w n (w 0 7).toNat) := by
  have hnt := hw.nt
  have htm := hw.tm
  have h0 : ∀ j, j < (w 0 7).toNat → 0 ≤ w 4 j := fun j hj => (hw.tr (k := j) (by omega)).1
  have h200 : ∀ j, j < (w 0 7).toNat → w 4 j ≤ 200 := fun j hj => (hw.tr (k := j) (by omega)).2.1
  by_cases hb : n ≤ bro w (w 0 3)
  · rw [if_pos hb]
    obtain ⟨j, h1, h2, h3⟩ := bro_ex hw hn (w 0 3).toNat (by rw [Int.toNat_of_nonneg htm.1]; exact hb)
    have h4 := bAt_le (w := w) n _ h0 j h1 h3
    rw [if_neg (by omega), Int.max_eq_left (by omega)]
  · rw [if_neg hb]
    have late : ∀ j, n ≤ bro w (w 4 j) → w 0 3 < w 4 j := fun j h => by
      rcases Int.lt_or_le (w 0 3) (w 4 j) with q | q
      · exact q
      · have := bro_mono hw q; omega
    rcases bAt_in w n (w 0 7).toNat with h | ⟨j, h1, h2, h3⟩
    · rw [if_pos h]
      rcases mB_in w n (w 0 7).toNat with h4 | ⟨i, h4, h5, h6, h7⟩
      · rw [if_pos h4]
      · have := bAt_le (w := w) n _ h0 i h4 h7
        omega
    · have l1 := late j h3
      have l2 := mB_le (w := w) n _ j h1 l1 h3
      have p1 := h0 j h1
      have p2 := h200 j h1
      rw [if_neg (by omega), Int.max_eq_right (by omega)]
      rcases mB_in w n (w 0 7).toNat with h4 | ⟨i, h4, h5, h6, h7⟩
      · omega
      · have l3 := bAt_le (w := w) n _ h0 i h4 h7
        have p3 := h200 i h4
        rw [if_neg (by omega)]
        omega
end M1
