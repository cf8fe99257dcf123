/-! The class's wall: trucks -/
section W5
variable {d : Nat} {g : pG} {σ : pM} {o : Nat} {T : Int}
def adT (w : Wl) (a b : Int) : Wl := up2 (up2 (up2 w 4 (w 0 7).toNat a) 5 (w 0 7).toNat b) 0 7 (w 0 7 + 1)
theorem c_addTruck {a b : Int} (hg : gWl g o) (hw : wOK T (cv σ o)) (hn : σ o 7 < 9) : ∃ σ2, Ca (d + 2) yX4_addTruck [vR (some o), vI a, vI b] g σ [] g σ2 ∧ cv σ2 o = adT (cv σ o) a b ∧ Fr o σ σ2 := by
  have hr := hw.raw
  refine ⟨up2 (up2 (up2 σ (o + 4) (σ o 7).toNat a) (o + 5) (σ o 7).toNat b) o 7 (σ o 7 + 1), ca_in cd_X4_addTruck bd_X4_addTruck rfl (by decide) (Nat.le_of_ble_eq_true rfl) (fun Q P hP hQ => ?_), ?_, ?_⟩
  · have e1 : (up2 σ (o + 4) (Int.toNat (σ o 7)) a) o 7 = σ o 7 := by simp [up2]
    have e2 : (up2 (up2 σ (o + 4) (Int.toNat (σ o 7)) a) (o + 5) (Int.toNat (σ o 7)) b) o 7 = σ o 7 := by simp [up2]
    refine k_X4_addTruck_0 hP o a b hg ⟨_, c_hasTruckRoom (d := d) hg hw, b2_iR _, fun _ => ?_, fun h => absurd (by rw [b2_t hn]; decide) h⟩
    rw [e1, e2]
    exact ⟨⟨by omega, by omega⟩, ⟨by omega, by omega⟩, hQ⟩
  · rw [cv_up0 (by decide), cv_up (f := 5) (Or.inr ⟨by decide, by decide, by omega⟩), cv_up (f := 4) (Or.inr ⟨by decide, by decide, by omega⟩), adT, cv0 (show 7 < 8 by decide)]
  · exact ((Fr.up (by decide)).tr (Fr.up (by decide))).tr Fr.up0
theorem adT_ok {w : Wl} (hw : wOK T w) {a b : Int} (hn : w 0 7 < 9) (ha : 0 ≤ a ∧ a ≤ 200) (hb : 0 ≤ b ∧ b ≤ 4) : wOK T (adT w a b) := by
  obtain ⟨h1, h2, h3, h4, h5, h6, h7, h8, h9, h10, h11⟩ := hw
  refine ⟨h1, h2, h3, h4, h5, h6, h7, ⟨show 0 ≤ w 0 7 + 1 by omega, show w 0 7 + 1 ≤ 9 by omega⟩, fun k hk => ?_, h10, h11⟩
  have h := h9 k hk
  by_cases hkk : k = (w 0 7).toNat
  · subst hkk
    have e4 : adT w a b 4 (w 0 7).toNat = a := by simp [adT, up2]
    have e5 : adT w a b 5 (w 0 7).toNat = b := by simp [adT, up2]
    rw [e4, e5]
    omega
  · have e4 : adT w a b 4 k = w 4 k := by simp [adT, up2, hkk]
    have e5 : adT w a b 5 k = w 5 k := by simp [adT, up2, hkk]
    rw [e4, e5]
    exact h
theorem c_delay {k : Nat} {n : Int} (hg : gWl g o) (hw : wOK T (cv σ o)) (hk : (k : Int) < σ o 7) : ∃ σ2, Ca (d + 2) yX4_delay [vR (some o), vI (k : Int), vI n] g σ [] g σ2 ∧ cv σ2 o = up2 (cv σ o) 4 k (cv σ o 4 k + n) ∧ Fr o σ σ2 := by
  have hr := hw.raw
  refine ⟨up2 σ (o + 4) k (σ (o + 4) k + n), ca_in cd_X4_delay bd_X4_delay rfl (by decide) (Nat.le_of_ble_eq_true rfl) (fun Q P hP hQ => ?_), ?_, Fr.up (by decide)⟩
  · refine k_X4_delay_0 hP o _ n hg ⟨_, c_isTruck (d := d) hg hw (rO (by omega) (by omega)), b2_iR _, fun h => absurd ⟨by omega, hk⟩ (b2_0 h), fun _ => ⟨⟨by omega, by omega⟩, ⟨by omega, by omega⟩, ?_⟩⟩
    rw [Int.toNat_natCast]
    exact hQ
  · rw [cv_up (f := 4) (Or.inr ⟨by decide, by decide, by omega⟩), cv4 (by omega)]
theorem dly_ok {w : Wl} (hw : wOK T w) {k : Nat} {v : Int} (hk : k < 9) (hv : 0 ≤ v ∧ v ≤ 200) : wOK T (up2 w 4 k v) := by
  obtain ⟨h1, h2, h3, h4, h5, h6, h7, h8, h9, h10, h11⟩ := hw
  refine ⟨h1, h2, h3, h4, h5, h6, h7, h8, fun c hc => ?_, h10, h11⟩
  have h := h9 c hc
  have e5 : up2 w 4 k v 5 c = w 5 c := rfl
  rw [e5]
  by_cases hck : c = k
  · subst hck
    have e4 : up2 w 4 c v 4 c = v := by simp [up2]
    rw [e4]
    omega
  · have e4 : up2 w 4 k v 4 c = w 4 c := by simp [up2, hck]
    rw [e4]
    exact h
/-- truck k goes, those behind it move up: as far as j -/
def dM (σ : pM) (o k j : Nat) : pM := fun a x => if (a = o + 4 ∨ a = o + 5) ∧ k ≤ x ∧ x < j then σ a (x + 1) else σ a x
theorem dM_s (σ : pM) (o k j : Nat) (h : k ≤ j) : up2 (up2 (dM σ o k j) (o + 4) j ((dM σ o k j) (o + 4) (j + 1))) (o + 5) j ((up2 (dM σ o k j) (o + 4) j ((dM σ o k j) (o + 4) (j + 1))) (o + 5) (j + 1)) = dM σ o k (j + 1) := by
  have e5 : (up2 (dM σ o k j) (o + 4) j ((dM σ o k j) (o + 4) (j + 1))) (o + 5) (j + 1) = σ (o + 5) (j + 1) := by
    have hno : ¬ j + 1 < j := by omega
    simp [up2, dM, hno]
  have e4 : (dM σ o k j) (o + 4) (j + 1) = σ (o + 4) (j + 1) := by
    have hno : ¬ j + 1 < j := by omega
    simp [dM, hno]
  rw [e5, e4]
  funext a x
  unfold up2 dM
  by_cases h5 : a = o + 5
  · subst h5
    by_cases hx : x = j
    · subst hx
      simp [h]
    · have e : (k ≤ x ∧ x < j + 1) ↔ (k ≤ x ∧ x < j) := by omega
      simp [hx, e]
  · by_cases h4 : a = o + 4
    · subst h4
      by_cases hx : x = j
      · subst hx
        simp [h]
      · have e : (k ≤ x ∧ x < j + 1) ↔ (k ≤ x ∧ x < j) := by omega
        simp [hx, e]
    · simp [h5, h4]
def drp (w : Wl) (k : Nat) : Wl := fun f j => if (f = 4 ∨ f = 5) ∧ k ≤ j ∧ (j : Int) + 1 < w 0 7 then w f (j + 1) else if f = 0 ∧ j = 7 then w 0 7 - 1 else w f j
theorem c_drop {k : Nat} (hg : gWl g o) (hw : wOK T (cv σ o)) (hk : (k : Int) < σ o 7) : ∃ σ2, Ca (d + 2) yX4_dropTruck [vR (some o), vI (k : Int)] g σ [] g σ2 ∧ cv σ2 o = drp (cv σ o) k ∧ Fr o σ σ2 := by
  have hr := hw.raw
  refine ⟨up2 (dM σ o k ((σ o 7).toNat - 1)) o 7 (σ o 7 - 1), ca_in cd_X4_dropTruck bd_X4_dropTruck rfl (by decide) (Nat.le_of_ble_eq_true rfl) (fun Q P hP hQ => ?_), ?_, ?_⟩
  · refine k_X4_dropTruck_0 hP o _ hg ⟨_, c_isTruck (d := d) hg hw (rO (by omega) (by omega)), b2_iR _, fun _ => ?_, fun h => absurd ⟨by omega, hk⟩ (b2_0 (Decidable.not_not.mp h))⟩
    have loop : ∀ (m j : Nat), k ≤ j → (j : Int) + 1 + m = σ o 7 → P 11 [(0, vR (some o)), (2, vI (j : Int))] [] g (dM σ o k j) 0 0 := by
      intro m
      induction m with
      | zero =>
        intro j hj hm
        have e7 : (dM σ o k j) o 7 = σ o 7 := by simp [dM]
        refine k_X4_dropTruck_11 hP o _ hg ?_
        rw [e7]
        refine ⟨rO (by omega) (by omega), rO (by omega) (by omega), fun _ => ?_, fun h => absurd (by omega) h⟩
        rw [show j = (σ o 7).toNat - 1 by omega]
        exact hQ
      | succ m ih =>
        intro j hj hm
        have hi := ih (j + 1) (by omega) (by omega)
        have e7 : (dM σ o k j) o 7 = σ o 7 := by simp [dM]
        refine k_X4_dropTruck_11 hP o _ hg ?_
        rw [e7]
        refine ⟨rO (by omega) (by omega), rO (by omega) (by omega), fun h => absurd h (by omega), fun _ => ⟨⟨by omega, by omega⟩, ⟨by omega, by omega⟩, ⟨by omega, by omega⟩, ⟨by omega, by omega⟩, ?_⟩⟩
        rw [show ((j : Int) + 1).toNat = j + 1 by omega, Int.toNat_natCast, dM_s σ o k j hj]
        exact hi
    have h := loop ((σ o 7).toNat - 1 - k) k (Nat.le_refl k) (by omega)
    have e0 : dM σ o k k = σ := by
      funext a x
      have : ¬ (k ≤ x ∧ x < k) := by omega
      simp [dM, this]
    rw [e0] at h
    exact h
  · rw [cv_up0 (by decide)]
    have e7 : cv σ o 0 7 = σ o 7 := cv0 (by decide)
    funext f j
    unfold up2 drp
    rw [e7]
    by_cases hf : f = 0
    · subst hf
      by_cases hj : j = 7
      · simp [hj]
      · simp [hj, cv, dM]
    · simp only [hf, if_false, false_and]
      by_cases h45 : f = 4 ∨ f = 5
      · by_cases hj : k ≤ j ∧ (j : Int) + 1 < σ o 7
        · rw [if_pos ⟨h45, hj⟩, cvf (by omega) (by omega) (by omega), cvf (by omega) (by omega) (by omega), dM, if_pos ⟨by omega, hj.1, by omega⟩]
        · rw [if_neg (fun q => hj q.2)]
          by_cases h9 : j < 9
          · rw [cvf (by omega) (by omega) h9, cvf (by omega) (by omega) h9, dM, if_neg (fun q => hj ⟨q.2.1, by omega⟩)]
          · have : ¬ ((f = 0 ∧ j < 8) ∨ (1 ≤ f ∧ f ≤ 5 ∧ j < 9)) := by omega
            simp [cv, this]
      · rw [if_neg (fun q => h45 q.1)]
        unfold cv dM
        split
        · rw [if_neg (fun q => h45 (by omega))]
        · rfl
  · refine Fr.tr (fun x hx => ?_) Fr.up0
    funext j
    have : ¬ (x = o + 4 ∨ x = o + 5) := by omega
    simp [dM, this]
theorem drp_ok {w : Wl} (hw : wOK T w) {k : Nat} (hk : (k : Int) < w 0 7) : wOK T (drp w k) := by
  obtain ⟨h1, h2, h3, h4, h5, h6, h7, h8, h9, h10, h11⟩ := hw
  refine ⟨h1, h2, h3, h4, h5, h6, h7, ⟨show 0 ≤ w 0 7 - 1 by omega, show w 0 7 - 1 ≤ 9 by omega⟩, fun j hj => ?_, h10, h11⟩
  by_cases hc : k ≤ j ∧ (j : Int) + 1 < w 0 7
  · have e4 : drp w k 4 j = w 4 (j + 1) := by simp [drp, hc]
    have e5 : drp w k 5 j = w 5 (j + 1) := by simp [drp, hc]
    rw [e4, e5]
    exact h9 (j + 1) (by omega)
  · have e4 : drp w k 4 j = w 4 j := by simp [drp, hc]
    have e5 : drp w k 5 j = w 5 j := by simp [drp, hc]
    rw [e4, e5]
    exact h9 j hj
end W5
