/-! The class's wall: what its methods answer, one -/
theorem rO {x : Int} (h1 : -2000000000 ≤ x) (h2 : x ≤ 2000000000) : iR x := ⟨by omega, by omega⟩
section W1
variable {d : Nat} {g : pG} {σ : pM} {o : Nat} {T : Int}
theorem wOK.raw (hw : wOK T (cv σ o)) : (1 ≤ σ o 0 ∧ σ o 0 ≤ 3) ∧ (1 ≤ σ o 1 ∧ σ o 1 ≤ 3) ∧ (1 ≤ σ o 2 ∧ σ o 2 ≤ 9 ∧ σ o 0 ≤ σ o 2) ∧ (0 ≤ σ o 3 ∧ σ o 3 ≤ T) ∧ (1 ≤ σ o 4 ∧ σ o 4 ≤ 40) ∧ (0 ≤ σ o 5 ∧ σ o 5 ≤ 9) ∧ (0 ≤ σ o 6 ∧ σ o 6 ≤ 9) ∧ (0 ≤ σ o 7 ∧ σ o 7 ≤ 9) := by
  have h2 := hw.cells
  obtain ⟨a, b, -, t, ag, h, l, tr, -⟩ := hw
  simp only [cv0 (show (0 : Nat) < 8 by decide), cv0 (show (1 : Nat) < 8 by decide), cv0 (show (2 : Nat) < 8 by decide), cv0 (show (3 : Nat) < 8 by decide), cv0 (show (4 : Nat) < 8 by decide), cv0 (show (5 : Nat) < 8 by decide), cv0 (show (6 : Nat) < 8 by decide), cv0 (show (7 : Nat) < 8 by decide)] at *
  exact ⟨a, b, h2, t, ag, h, l, tr⟩
theorem wOK.rb (hw : wOK T (cv σ o)) {c : Nat} (hc : c < 9) : (1 ≤ σ (o + 1) c ∧ σ (o + 1) c ≤ 3) ∧ (-1 ≤ σ (o + 2) c ∧ σ (o + 2) c ≤ T) ∧ (-1 ≤ σ (o + 3) c ∧ σ (o + 3) c ≤ T) ∧ (0 ≤ σ (o + 4) c ∧ σ (o + 4) c ≤ 200) ∧ (0 ≤ σ (o + 5) c ∧ σ (o + 5) c ≤ 4) := by
  have h1 := hw.nd hc
  have h2 := hw.bd hc
  have h3 := hw.tr hc
  have h4 := hw.tm
  rw [cv1 hc, cv2 hc, cv3 hc] at h2
  rw [cv1 hc] at h1
  rw [cv4 hc, cv5 hc] at h3
  omega
theorem c_max {a b : Int} (ha : iR a) (hb : iR b) : Ca (d + 1) yJ9_max_7cf53 [vI a, vI b] g σ [vI (max a b)] g σ := by
  refine ca_in cd_J9_max_7cf53 bd_J9_max_7cf53 (by decide +kernel) (by decide) (Nat.le_of_ble_eq_true rfl) (fun Q P hP hQ => ?_)
  refine k_J9_max_7cf53_0 hP a b ⟨ha, hb, fun h => ?_, fun h => ?_⟩
  · rwa [Int.max_eq_right (by omega)] at hQ
  · rwa [Int.max_eq_left (by omega)] at hQ
theorem c_min {a b : Int} (ha : iR a) (hb : iR b) : Ca (d + 1) yJ9_min_7cf53 [vI a, vI b] g σ [vI (min a b)] g σ := by
  refine ca_in cd_J9_min_7cf53 bd_J9_min_7cf53 (by decide +kernel) (by decide) (Nat.le_of_ble_eq_true rfl) (fun Q P hP hQ => ?_)
  refine k_J9_min_7cf53_0 hP a b ⟨ha, hb, fun h => ?_, fun h => ?_⟩
  · rwa [Int.min_eq_right (by omega)] at hQ
  · rwa [Int.min_eq_left (by omega)] at hQ
theorem c_isCell {c : Int} (hg : gWl g o) (hw : wOK T (cv σ o)) (hc : iR c) : Ca (d + 1) yX4_isCell [vR (some o), vI c] g σ [vI (b2 (0 ≤ c ∧ c < σ o 2))] g σ := by
  refine ca_in cd_X4_isCell bd_X4_isCell rfl (by decide) (Nat.le_of_ble_eq_true rfl) (fun Q P hP hQ => ?_)
  have hr := hw.raw
  refine k_X4_isCell_0 hP o c hg ⟨hc, fun h => ?_, fun h => ⟨hc, rO (by omega) (by omega), fun h1 => ?_, fun h1 => ?_⟩⟩
  · rwa [b2_f (by omega)] at hQ
  · rwa [b2_f (by omega)] at hQ
  · rwa [b2_t (by omega)] at hQ
theorem c_isTruck {c : Int} (hg : gWl g o) (hw : wOK T (cv σ o)) (hc : iR c) : Ca (d + 1) yX4_isTruck [vR (some o), vI c] g σ [vI (b2 (0 ≤ c ∧ c < σ o 7))] g σ := by
  refine ca_in cd_X4_isTruck bd_X4_isTruck rfl (by decide) (Nat.le_of_ble_eq_true rfl) (fun Q P hP hQ => ?_)
  have hr := hw.raw
  refine k_X4_isTruck_0 hP o c hg ⟨hc, fun h => ?_, fun h => ⟨hc, rO (by omega) (by omega), fun h1 => ?_, fun h1 => ?_⟩⟩
  · rwa [b2_f (by omega)] at hQ
  · rwa [b2_f (by omega)] at hQ
  · rwa [b2_t (by omega)] at hQ
theorem c_hasTruckRoom (hg : gWl g o) (hw : wOK T (cv σ o)) : Ca (d + 1) yX4_hasTruckRoom [vR (some o)] g σ [vI (b2 (σ o 7 < 9))] g σ := by
  refine ca_in cd_X4_hasTruckRoom bd_X4_hasTruckRoom rfl (by decide) (Nat.le_of_ble_eq_true rfl) (fun Q P hP hQ => ?_)
  have hr := hw.raw
  refine k_X4_hasTruckRoom_0 hP o hg ⟨rO (by omega) (by omega), fun h => ?_, fun h => ?_⟩
  · rwa [b2_f (by omega)] at hQ
  · rwa [b2_t (by omega)] at hQ
theorem c_isP {c : Int} (hg : gWl g o) (hw : wOK T (cv σ o)) (hT : T ≤ 1000000) (hc : iR c) : Ca (d + 1) yX4_isPoured [vR (some o), vI c] g σ [vI (b2 (0 ≤ c ∧ c < σ o 2 ∧ ¬ σ (o + 2) c.toNat = -1))] g σ := by
  refine ca_in cd_X4_isPoured bd_X4_isPoured rfl (by decide) (Nat.le_of_ble_eq_true rfl) (fun Q P hP hQ => ?_)
  have hr := hw.raw
  refine k_X4_isPoured_0 hP o c hg ⟨hc, fun h => ?_, fun h => ⟨hc, rO (by omega) (by omega), fun h1 => ?_, fun h1 => ?_⟩⟩
  · rwa [b2_f (by omega)] at hQ
  · rwa [b2_f (by omega)] at hQ
  · have hb := hw.rb (c := c.toNat) (by omega)
    refine ⟨⟨by omega, by omega⟩, rO (by omega) (by omega), fun h2 => ?_, fun h2 => ?_⟩
    · rwa [b2_f (by omega)] at hQ
    · rwa [b2_t (by omega)] at hQ
/-- of a cell by its number -/
theorem c_isPn {c : Nat} (hg : gWl g o) (hw : wOK T (cv σ o)) (hT : T ≤ 1000000) (hc : c < 9) : Ca (d + 1) yX4_isPoured [vR (some o), vI (c : Int)] g σ [vI (b2 (¬ cv σ o 2 c = -1))] g σ := by
  have h := c_isP (d := d) (c := (c : Int)) hg hw hT (rO (by omega) (by omega))
  have e : (0 ≤ (c : Int) ∧ (c : Int) < σ o 2 ∧ ¬ σ (o + 2) (c : Int).toNat = -1) ↔ ¬ cv σ o 2 c = -1 := by
    have hb := hw.bd hc
    rw [cv2 hc, cv0 (show (2 : Nat) < 8 by decide)] at hb
    rw [cv2 hc, Int.toNat_natCast]
    constructor
    · exact fun h => h.2.2
    · intro h2
      exact ⟨by omega, by omega, h2⟩
  simp only [b2, e] at h ⊢
  exact h
def fU (w : Wl) : Nat → Int := fun c => if w 2 c = -1 then 0 else w 1 c
theorem used_cells {w : Wl} (hw : wOK T w) : used w = su (fU w) (w 0 2).toNat := by
  have hc := hw.cells
  refine su_to (by omega) (fun k h1 h2 => ?_)
  have hb := hw.bd h2
  rw [if_pos (by omega)]
theorem used_bd {w : Wl} (hw : wOK T w) : 0 ≤ used w ∧ used w ≤ 27 := by
  have h := su_bd (f := fU w) (a := 0) (b := 3) (n := 9) (fun k hk => by
    have := hw.nd hk
    unfold fU
    split <;> omega)
  have e : used w = su (fU w) 9 := rfl
  rw [e]
  exact ⟨by simpa using h.1, by simpa using h.2⟩
theorem bro_bd {w : Wl} (hw : wOK T w) (t : Int) : 0 ≤ bro w t ∧ bro w t ≤ 36 := by
  have hn := hw.nt
  have h := su_bd (f := fun k => if w 4 k ≤ t then w 5 k else 0) (a := 0) (b := 4) (n := (w 0 7).toNat) (fun k hk => by
    have := hw.tr (k := k) (by omega)
    split <;> omega)
  unfold bro
  omega
theorem c_used (hg : gWl g o) (hw : wOK T (cv σ o)) (hT : T ≤ 1000000) : Ca (d + 2) yX4_usedLoads [vR (some o)] g σ [vI (used (cv σ o))] g σ := by
  refine ca_in cd_X4_usedLoads bd_X4_usedLoads rfl (by decide) (Nat.le_of_ble_eq_true rfl) (fun Q P hP hQ => ?_)
  have hr := hw.raw
  refine k_X4_usedLoads_0 hP o hg ?_
  have loop : ∀ (m n : Nat), (n : Int) + m = σ o 2 → P 4 [(0, vR (some o)), (1, vI (su (fU (cv σ o)) n)), (2, vI (n : Int))] [] g σ 0 0 := by
    intro m
    induction m with
    | zero =>
      intro n hn
      refine k_X4_usedLoads_4 hP o _ _ hg ⟨rO (by omega) (by omega), rO (by omega) (by omega), fun _ => ?_, fun h => absurd (by omega) h⟩
      rw [used_cells hw, cv0 (show (2 : Nat) < 8 by decide)] at hQ
      rw [show n = (σ o 2).toNat by omega]
      exact hQ
    | succ m ih =>
      intro n hn
      have h9 : n < 9 := by omega
      have hb := hw.rb h9
      have hi := ih (n + 1) (by omega)
      refine k_X4_usedLoads_4 hP o _ _ hg ⟨rO (by omega) (by omega), rO (by omega) (by omega), fun h => absurd h (by omega), fun _ => ⟨_, c_isPn hg hw hT h9, by rcases b2_01 (¬ cv σ o 2 n = -1) with h | h <;> rw [h] <;> decide, fun h => ?_, fun h => ⟨⟨by omega, by omega⟩, ?_⟩⟩⟩
      · have e : su (fU (cv σ o)) (n + 1) = su (fU (cv σ o)) n := by
          have h2 : cv σ o 2 n = -1 := by
            unfold b2 at h
            split at h
            · cases h
            · rename_i h3; exact Decidable.not_not.mp h3
          rw [su, fU, if_pos h2, Int.add_zero]
        rw [e] at hi
        exact hi
      · have e : su (fU (cv σ o)) (n + 1) = su (fU (cv σ o)) n + σ (o + 1) (Int.toNat (n : Int)) := by
          have h2 : ¬ cv σ o 2 n = -1 := by
            unfold b2 at h
            split at h
            · rename_i h3; exact h3
            · exact absurd rfl h
          rw [su, Int.toNat_natCast, ← cv1 (σ := σ) (o := o) h9]
          congr 1
          rw [fU, if_neg h2]
        rw [e] at hi
        exact hi
  exact loop (σ o 2).toNat 0 (by omega)
end W1
