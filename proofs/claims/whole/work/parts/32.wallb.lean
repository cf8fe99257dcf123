/-! The class's wall: what its methods answer, two -/
section W2
variable {d : Nat} {g : pG} {σ : pM} {o : Nat} {T : Int}
theorem b2_iR (p : Prop) [Decidable p] : iR (b2 p) := by rcases b2_01 p with h | h <;> rw [h] <;> decide
theorem b2_0 {p : Prop} [Decidable p] (h : b2 p = 0) : ¬ p := fun q => by rw [b2_t q] at h; cases h
theorem b2_1 {p : Prop} [Decidable p] (h : ¬ b2 p = 0) : p := Decidable.byContradiction fun q => h (b2_f q)
def fB (w : Wl) (t : Int) : Nat → Int := fun k => if w 4 k ≤ t then w 5 k else 0
theorem c_bro {t : Int} (hg : gWl g o) (hw : wOK T (cv σ o)) (ht : iR t) : Ca (d + 1) yX4_broughtBy [vR (some o), vI t] g σ [vI (bro (cv σ o) t)] g σ := by
  refine ca_in cd_X4_broughtBy bd_X4_broughtBy rfl (by decide) (Nat.le_of_ble_eq_true rfl) (fun Q P hP hQ => ?_)
  have hr := hw.raw
  refine k_X4_broughtBy_0 hP o t hg ?_
  have e7 : cv σ o 0 7 = σ o 7 := cv0 (by decide)
  have loop : ∀ (m n : Nat), (n : Int) + m = σ o 7 → P 4 [(0, vR (some o)), (1, vI t), (2, vI (su (fB (cv σ o) t) n)), (3, vI (n : Int))] [] g σ 0 0 := by
    intro m
    induction m with
    | zero =>
      intro n hn
      refine k_X4_broughtBy_4 hP o _ _ _ hg ⟨rO (by omega) (by omega), rO (by omega) (by omega), fun _ => ?_, fun h => absurd (by omega) h⟩
      have e : bro (cv σ o) t = su (fB (cv σ o) t) n := by
        rw [show n = (cv σ o 0 7).toNat by omega]; rfl
      rw [e] at hQ
      exact hQ
    | succ m ih =>
      intro n hn
      have h9 : n < 9 := by omega
      have hb := hw.rb h9
      have hi := ih (n + 1) (by omega)
      refine k_X4_broughtBy_4 hP o _ _ _ hg ⟨rO (by omega) (by omega), rO (by omega) (by omega), fun h => absurd h (by omega), fun _ => ⟨⟨by omega, by omega⟩, ?_⟩⟩
      rw [Int.toNat_natCast]
      refine ⟨rO (by omega) (by omega), ht, fun h => ?_, fun h => ⟨⟨by omega, by omega⟩, ?_⟩⟩
      · rw [su, fB, cv4 h9, if_neg (by omega), Int.add_zero] at hi
        exact hi
      · rw [su, fB, cv4 h9, if_pos (by omega), cv5 h9] at hi
        exact hi
  exact loop (σ o 7).toNat 0 (by omega)
theorem bAt_bd {w : Wl} (hw : wOK T w) (n : Int) : ∀ k, k ≤ 9 → -1 ≤ bAt w n k ∧ bAt w n k ≤ 200
  | 0, _ => by simp [bAt]
  | k + 1, h => by
    have := bAt_bd hw n k (by omega)
    have := hw.tr (k := k) (by omega)
    unfold bAt
    split <;> omega
theorem c_bAt {n : Int} (hg : gWl g o) (hw : wOK T (cv σ o)) (hn : iR n) : Ca (d + 2) yX4_broughtAt [vR (some o), vI n] g σ [vI (bAt (cv σ o) n (cv σ o 0 7).toNat)] g σ := by
  refine ca_in cd_X4_broughtAt bd_X4_broughtAt rfl (by decide) (Nat.le_of_ble_eq_true rfl) (fun Q P hP hQ => ?_)
  have hr := hw.raw
  refine k_X4_broughtAt_0 hP o n hg ?_
  have e7 : cv σ o 0 7 = σ o 7 := cv0 (by decide)
  have loop : ∀ (m k : Nat), (k : Int) + m = σ o 7 → P 4 [(0, vR (some o)), (1, vI n), (2, vI (bAt (cv σ o) n k)), (3, vI (k : Int))] [] g σ 0 0 := by
    intro m
    induction m with
    | zero =>
      intro k hk
      refine k_X4_broughtAt_4 hP o _ _ _ hg ⟨rO (by omega) (by omega), rO (by omega) (by omega), fun _ => ?_, fun h => absurd (by omega) h⟩
      rw [show (cv σ o 0 7).toNat = k by omega] at hQ
      exact hQ
    | succ m ih =>
      intro k hk
      have h9 : k < 9 := by omega
      have hb := hw.rb h9
      have hi := ih (k + 1) (by omega)
      have hl := bAt_bd hw n k (by omega)
      have hbr := bro_bd hw (cv σ o 4 k)
      rw [bAt] at hi
      refine k_X4_broughtAt_4 hP o _ _ _ hg ⟨rO (by omega) (by omega), rO (by omega) (by omega), fun h => absurd h (by omega), fun _ => ⟨⟨by omega, by omega⟩, rO (by omega) (by omega), fun h1 => ?_, fun h1 => ?_⟩⟩
      · rw [Int.toNat_natCast, ← cv4 (σ := σ) (o := o) h9]
        refine ⟨_, c_bro hg hw (rO (by rw [cv4 h9]; omega) (by rw [cv4 h9]; omega)), rO (by omega) (by omega), hn, fun h2 => ?_, fun h2 => ?_⟩
        · rw [if_neg (by omega)] at hi
          exact hi
        · rw [if_pos ⟨Or.inl h1, by omega⟩] at hi
          exact hi
      · rw [Int.toNat_natCast, ← cv4 (σ := σ) (o := o) h9]
        refine ⟨rO (by rw [cv4 h9]; omega) (by rw [cv4 h9]; omega), rO (by omega) (by omega), fun h2 => ?_, fun h2 => ⟨_, c_bro hg hw (rO (by rw [cv4 h9]; omega) (by rw [cv4 h9]; omega)), rO (by omega) (by omega), hn, fun h3 => ?_, fun h3 => ?_⟩⟩
        · rw [if_neg (by omega)] at hi
          exact hi
        · rw [if_neg (by omega)] at hi
          exact hi
        · rw [if_pos ⟨Or.inr (by omega), by omega⟩] at hi
          exact hi
  exact loop (σ o 7).toNat 0 (by omega)
theorem c_stock (hg : gWl g o) (hw : wOK T (cv σ o)) (hT : T ≤ 1000000) : Ca (d + 3) yX4_stock [vR (some o)] g σ [vI (bro (cv σ o) (cv σ o 0 3) - used (cv σ o))] g σ := by
  refine ca_in cd_X4_stock bd_X4_stock rfl (by decide) (Nat.le_of_ble_eq_true rfl) (fun Q P hP hQ => ?_)
  have hr := hw.raw
  refine k_X4_stock_0 hP o hg ⟨_, c_bro (d := d + 1) hg hw (rO (by omega) (by omega)), _, c_used (d := d) hg hw hT, ?_⟩
  rw [cv0 (show 3 < 8 by decide)] at hQ
  exact hQ
theorem stt_bd {w : Wl} (hw : wOK T w) (hT : 0 ≤ T) (c : Nat) : -1 ≤ stt w c ∧ stt w c ≤ T + 200 := by
  have h1 := bAt_bd hw (used w + w 1 c) (w 0 7).toNat (by have := hw.nt; omega)
  have h2 := hw.tm
  unfold stt
  split
  · split <;> omega
  · omega
theorem c_stt {c : Nat} (hg : gWl g o) (hw : wOK T (cv σ o)) (hT : T ≤ 1000000) (hc : c < 9) : Ca (d + 3) yX4_startOf [vR (some o), vI (c : Int)] g σ [vI (stt (cv σ o) c)] g σ := by
  refine ca_in cd_X4_startOf bd_X4_startOf rfl (by decide) (Nat.le_of_ble_eq_true rfl) (fun Q P hP hQ => ?_)
  have hr := hw.raw
  have e0 : cv σ o 0 0 = σ o 0 := cv0 (by decide)
  have e2 : cv σ o 0 2 = σ o 2 := cv0 (by decide)
  have e3 : cv σ o 0 3 = σ o 3 := cv0 (by decide)
  have hu := used_bd hw
  have hb := hw.rb hc
  have hat := bAt_bd hw (used (cv σ o) + cv σ o 1 c) (cv σ o 0 7).toNat (by have := hw.nt; omega)
  have fin : ∀ (h : (c : Int) < cv σ o 0 2 ∧ cv σ o 2 c = -1 ∧ (cv σ o 0 0 ≤ (c : Int) → ¬ cv σ o 2 (c - (cv σ o 0 0).toNat) = -1)), ∃ (v3 : Int), Ca (d + 2) yX4_usedLoads [vR (some o)] g σ [vI v3] g σ ∧ (0 ≤ (c : Int) ∧ (c : Int) < 9) ∧ ∃ (v4 : Int), Ca (d + 2) yX4_broughtAt [vR (some o), vI (v3 + (σ (o + 1) (Int.toNat (c : Int))))] g σ [vI v4] g σ ∧ iR v4 ∧ (¬ v4 = ((-1)) → ∃ (v5 : Int), Ca (d + 2) yJ9_max_7cf53 [vI (σ o 3), vI v4] g σ [vI v5] g σ ∧ Q [vI v5] g σ) ∧ (¬ (¬ v4 = ((-1))) → Q [vI ((-1))] g σ) := by
    intro h
    rw [stt, if_pos h] at hQ
    refine ⟨_, c_used (d := d) hg hw hT, ⟨by omega, by omega⟩, _, c_bAt (d := d) hg hw (rO (by rw [Int.toNat_natCast]; omega) (by rw [Int.toNat_natCast]; omega)), ?_⟩
    rw [Int.toNat_natCast, ← cv1 (σ := σ) (o := o) hc]
    refine ⟨rO (by omega) (by omega), fun h1 => ⟨_, c_max (d := d + 1) (rO (by omega) (by omega)) (rO (by omega) (by omega)), ?_⟩, fun h1 => ?_⟩
    · rw [if_neg h1, e3] at hQ
      exact hQ
    · rw [if_pos (Decidable.not_not.mp h1)] at hQ
      exact hQ
  have no : ¬ ((c : Int) < cv σ o 0 2 ∧ cv σ o 2 c = -1 ∧ (cv σ o 0 0 ≤ (c : Int) → ¬ cv σ o 2 (c - (cv σ o 0 0).toNat) = -1)) → Q [vI (-1)] g σ := by
    intro h
    rw [stt, if_neg h] at hQ
    exact hQ
  refine k_X4_startOf_0 hP o _ hg ⟨_, c_isCell (d := d + 1) hg hw (rO (by omega) (by omega)), b2_iR _, fun h => ?_, fun h => ⟨_, c_isPn (d := d + 1) hg hw hT hc, b2_iR _, fun h2 => ⟨rO (by omega) (by omega), rO (by omega) (by omega), fun h3 => ?_, fun h3 => ?_⟩, fun h2 => ?_⟩⟩
  · have := b2_0 h
    exact no (fun q => by omega)
  · have h1 := b2_1 h
    have h4 := Decidable.not_not.mp (b2_0 h2)
    exact fin ⟨by omega, h4, fun q => by omega⟩
  · have h1 := b2_1 h
    have h4 := Decidable.not_not.mp (b2_0 h2)
    have ec : (c : Int) - σ o 0 = ((c - (cv σ o 0 0).toNat : Nat) : Int) := by omega
    rw [ec]
    refine ⟨_, c_isPn (d := d + 1) hg hw hT (by omega), b2_iR _, fun h5 => ?_, fun h5 => ?_⟩
    · exact fin ⟨by omega, h4, fun _ => b2_1 h5⟩
    · have h6 := Decidable.not_not.mp (b2_0 (Decidable.not_not.mp h5))
      exact no (fun q => q.2.2 (by omega) h6)
  · have h4 := b2_1 h2
    exact no (fun q => h4 q.2.1)
theorem c_edges (hg : gWl g o) : Ca (d + 1) yX4_edges [vR (some o)] g σ [vI (3 * σ o 2)] g σ :=
  ca_in cd_X4_edges bd_X4_edges rfl (by decide) (Nat.le_of_ble_eq_true rfl) (fun Q P hP hQ => k_X4_edges_0 hP o hg hQ)
def acI (w : Wl) (e : Int) : Int := if e < 0 then -1 else acr w e.toNat
theorem acr_bd {w : Wl} (hw : wOK T w) (e : Nat) : acr w e = -1 ∨ (0 ≤ acr w e ∧ acr w e < w 0 2 ∧ acr w e ≤ 8) := by
  have hc := hw.cells
  obtain ⟨h1, h2, h3, -⟩ := hw
  have a : w 0 0 = 1 ∨ w 0 0 = 2 ∨ w 0 0 = 3 := by omega
  have b : w 0 1 = 1 ∨ w 0 1 = 2 ∨ w 0 1 = 3 := by omega
  unfold acr
  rcases a with a | a | a <;> rcases b with b | b | b <;> rw [a, b] at h3 <;> rw [a, h3] <;> (repeat' split) <;> omega
theorem c_across {e : Int} (hg : gWl g o) (hw : wOK T (cv σ o)) (he : iR e) : Ca (d + 1) yX4_across [vR (some o), vI e] g σ [vI (acI (cv σ o) e)] g σ := by
  refine ca_in cd_X4_across bd_X4_across rfl (by decide) (Nat.le_of_ble_eq_true rfl) (fun Q P hP hQ => ?_)
  have hr := hw.raw
  by_cases h0 : e < 0
  · refine k_X4_across_0 hP o e hg ⟨he, he, fun _ => ?_, fun h => absurd h0 h⟩
    rw [acI, if_pos h0] at hQ
    exact hQ
  · obtain ⟨n, rfl⟩ := Int.eq_ofNat_of_zero_le (show 0 ≤ e by omega)
    have ed : Int.tdiv (n : Int) 3 = ((n / 3 : Nat) : Int) := by rw [Int.tdiv_eq_ediv_of_nonneg (by omega)]; omega
    have em : Int.tmod (n : Int) 3 = ((n % 3 : Nat) : Int) := by rw [Int.tmod_eq_emod_of_nonneg (by omega)]; omega
    have es : Int.tmod ((n / 3 : Nat) : Int) (σ o 0) = ((n / 3 : Nat) : Int) % σ o 0 := Int.tmod_eq_emod_of_nonneg (by omega)
    have m0 := Int.emod_nonneg ((n / 3 : Nat) : Int) (show σ o 0 ≠ 0 by omega)
    have m1 := Int.emod_lt_of_pos ((n / 3 : Nat) : Int) (show 0 < σ o 0 by omega)
    rw [acI, if_neg h0, Int.toNat_natCast, acr, cv0 (show 0 < 8 by decide), cv0 (show 2 < 8 by decide)] at hQ
    refine k_X4_across_0 hP o n hg ?_
    rw [ed, em, es]
    have hn : (n : Int) < 2147483648 := he.2
    refine ⟨he, he, fun h => absurd h h0, fun _ => ⟨rO (by omega) (by omega), rO (by omega) (by omega), fun h1 => ?_, fun h1 => ⟨rO (by omega) (by omega), fun _ => ⟨⟨rO (by omega) (by omega), rO (by omega) (by omega), by omega⟩, he, rO (by omega) (by omega), fun h2 => ⟨rO (by omega) (by omega), fun h3 => ?_, fun h3 => ?_⟩, fun h2 => ⟨rO (by omega) (by omega), rO (by omega) (by omega), fun h3 => ?_, fun h3 => ?_⟩, fun h2 => ⟨rO (by omega) (by omega), rO (by omega) (by omega), fun h3 => ?_, fun h3 => ?_⟩⟩, fun h2 => absurd (by omega) h2⟩⟩⟩
    · rw [if_neg (by omega)] at hQ; exact hQ
    · rw [if_pos (by omega), if_neg (by omega), if_neg (by omega), if_neg (by omega)] at hQ; exact hQ
    · rw [if_pos (by omega), if_neg (by omega), if_neg (by omega), if_pos (by omega)] at hQ; exact hQ
    · rw [if_pos (by omega), if_pos (by omega), if_neg (by omega)] at hQ; exact hQ
    · rw [if_pos (by omega), if_pos (by omega), if_pos (by omega)] at hQ; exact hQ
    · rw [if_pos (by omega), if_neg (by omega), if_pos (by omega), if_neg (by omega)] at hQ; exact hQ
    · rw [if_pos (by omega), if_neg (by omega), if_pos (by omega), if_pos (by omega)] at hQ; exact hQ
theorem acI_iR {w : Wl} (hw : wOK T w) (e : Int) : iR (acI w e) := by
  have h := acr_bd hw e.toNat
  have hc := hw.cells
  unfold acI
  split
  · decide
  · exact rO (by omega) (by omega)
theorem c_isEdge {e : Int} (hg : gWl g o) (hw : wOK T (cv σ o)) (he : iR e) : Ca (d + 2) yX4_isEdge [vR (some o), vI e] g σ [vI (b2 (¬ acI (cv σ o) e = -1))] g σ := by
  refine ca_in cd_X4_isEdge bd_X4_isEdge rfl (by decide) (Nat.le_of_ble_eq_true rfl) (fun Q P hP hQ => ?_)
  refine k_X4_isEdge_0 hP o e hg ⟨_, c_across (d := d) hg hw he, acI_iR hw e, fun h => ?_, fun h => ?_⟩
  · rwa [b2_f (fun q => q h)] at hQ
  · rwa [b2_t h] at hQ
theorem acI_nat (w : Wl) (e : Nat) : acI w (e : Int) = acr w e := by
  rw [acI, if_neg (by omega), Int.toNat_natCast]
theorem acr_cell {w : Wl} (hw : wOK T w) {e : Nat} (h : ¬ acr w e = -1) : e / 3 < 9 ∧ ((e / 3 : Nat) : Int) < w 0 2 := by
  have hc := hw.cells
  have h2 : ((e / 3 : Nat) : Int) < w 0 2 := by
    unfold acr at h
    split at h
    · assumption
    · exact absurd rfl h
  exact ⟨by omega, h2⟩
theorem tdiv3 (e : Nat) : Int.tdiv (e : Int) 3 = ((e / 3 : Nat) : Int) := by rw [Int.tdiv_eq_ediv_of_nonneg (by omega)]; omega
theorem tmod3 (e : Nat) : Int.tmod (e : Int) 3 = ((e % 3 : Nat) : Int) := by rw [Int.tmod_eq_emod_of_nonneg (by omega)]; omega
theorem c_opn {e : Nat} (hg : gWl g o) (hw : wOK T (cv σ o)) (hT : T ≤ 1000000) (he : e < 27) : Ca (d + 2) yX4_isOpen [vR (some o), vI (e : Int)] g σ [vI (b2 (opn (cv σ o) e))] g σ := by
  refine ca_in cd_X4_isOpen bd_X4_isOpen rfl (by decide) (Nat.le_of_ble_eq_true rfl) (fun Q P hP hQ => ?_)
  have ha := c_across (d := d) (e := (e : Int)) hg hw (rO (by omega) (by omega))
  rw [acI_nat] at ha
  have hb := acr_bd hw e
  refine k_X4_isOpen_0 hP o _ hg ⟨_, ha, rO (by omega) (by omega), fun h => ?_, fun h => ⟨rO (by omega) (by omega), ?_⟩⟩
  · rwa [b2_f (fun q => q.1 h)] at hQ
  · rw [tdiv3]
    obtain ⟨n, hn⟩ := Int.eq_ofNat_of_zero_le (show 0 ≤ acr (cv σ o) e by omega)
    have hn9 : n < 9 := by omega
    refine ⟨_, c_isPn (d := d) hg hw hT (acr_cell hw h).1, b2_iR _, fun h1 => ?_, fun h1 => ?_⟩
    · rwa [b2_f (fun q => b2_0 h1 q.2.1)] at hQ
    · have e2 : (acr (cv σ o) e).toNat = n := by omega
      rw [hn]
      refine ⟨_, c_isPn (d := d) hg hw hT hn9, b2_iR _, fun h2 => ?_, fun h2 => ?_⟩
      · rwa [b2_f (fun q => b2_1 h2 (by rw [← e2]; exact q.2.2))] at hQ
      · rwa [b2_t ⟨h, b2_1 h1, by rw [e2]; exact Decidable.not_not.mp (b2_0 (Decidable.not_not.mp h2))⟩] at hQ
def ago (w : Wl) (e : Nat) : Int := if acr w e ≠ -1 ∧ w 2 (e / 3) ≠ -1 then (if w 2 (acr w e).toNat = -1 then w 0 3 else w 2 (acr w e).toNat) - w 3 (e / 3) else -1
theorem c_ago {e : Nat} (hg : gWl g o) (hw : wOK T (cv σ o)) (hT : T ≤ 1000000) (he : e < 27) : Ca (d + 2) yX4_ageOf [vR (some o), vI (e : Int)] g σ [vI (ago (cv σ o) e)] g σ := by
  refine ca_in cd_X4_ageOf bd_X4_ageOf rfl (by decide) (Nat.le_of_ble_eq_true rfl) (fun Q P hP hQ => ?_)
  have ha := c_across (d := d) (e := (e : Int)) hg hw (rO (by omega) (by omega))
  rw [acI_nat] at ha
  have hb := acr_bd hw e
  have e2 : cv σ o 0 2 = σ o 2 := cv0 (by decide)
  have e3 : cv σ o 0 3 = σ o 3 := cv0 (by decide)
  refine k_X4_ageOf_0 hP o _ hg ⟨rO (by omega) (by omega), _, ha, _, c_isCell (d := d) hg hw (rO (by omega) (by omega)), b2_iR _, fun h => ?_, fun h => ?_⟩
  · have := b2_0 h
    rw [ago, if_neg (by omega)] at hQ
    exact hQ
  · have h0 := b2_1 h
    have hne : ¬ acr (cv σ o) e = -1 := by omega
    have hce := (acr_cell hw hne).1
    obtain ⟨n, hn⟩ := Int.eq_ofNat_of_zero_le (show 0 ≤ acr (cv σ o) e by omega)
    have hn9 : n < 9 := by omega
    have en : (acr (cv σ o) e).toNat = n := by omega
    rw [tdiv3]
    refine ⟨_, c_isPn (d := d) hg hw hT hce, b2_iR _, fun h1 => ?_, fun h1 => ?_⟩
    · have h1 := b2_1 h1
      rw [ago, if_pos ⟨hne, h1⟩, en] at hQ
      rw [hn]
      refine ⟨_, c_isPn (d := d) hg hw hT hn9, b2_iR _, fun h2 => ⟨⟨by omega, by omega⟩, ?_⟩, fun h2 => ⟨⟨by omega, by omega⟩, ⟨by omega, by omega⟩, ?_⟩⟩
      · rw [if_pos (Decidable.not_not.mp (b2_0 h2)), e3, cv3 hce] at hQ
        exact hQ
      · rw [if_neg (b2_1 h2), cv2 hn9, cv3 hce] at hQ
        exact hQ
    · have h1 := b2_0 (Decidable.not_not.mp h1)
      rw [ago, if_neg (fun q => h1 q.2)] at hQ
      exact hQ
theorem ago_jnt {w : Wl} (hw : wOK T w) (e : Nat) : w 0 4 < ago w e ↔ jnt w e := by
  have := hw.ag
  unfold ago
  split
  · rename_i h
    exact ⟨fun q => ⟨h.1, h.2, q⟩, fun q => q.2.2⟩
  · rename_i h
    exact ⟨fun q => by omega, fun q => absurd ⟨q.1, q.2.1⟩ h⟩
theorem ago_bd {w : Wl} (hw : wOK T w) (e : Nat) (hT : T ≤ 1000000) (he : e < 27) : -1000000 ≤ ago w e ∧ ago w e ≤ 1000000 := by
  have hb := acr_bd hw e
  have ht := hw.tm
  unfold ago
  split
  · rename_i h
    have h1 := hw.bd (c := e / 3) (by omega)
    have h2 := hw.bd (c := (acr w e).toNat) (by omega)
    have h3 := hw.nd (k := e / 3) (by omega)
    have h4 := hw.nd (k := (acr w e).toNat) (by omega)
    split <;> omega
  · omega
theorem c_jnt {e : Nat} (hg : gWl g o) (hw : wOK T (cv σ o)) (hT : T ≤ 1000000) (he : e < 27) : Ca (d + 3) yX4_isJoint [vR (some o), vI (e : Int)] g σ [vI (b2 (jnt (cv σ o) e))] g σ := by
  refine ca_in cd_X4_isJoint bd_X4_isJoint rfl (by decide) (Nat.le_of_ble_eq_true rfl) (fun Q P hP hQ => ?_)
  have hr := hw.raw
  have hj := ago_jnt hw e
  have hd := ago_bd hw e hT he
  rw [cv0 (show 4 < 8 by decide)] at hj
  refine k_X4_isJoint_0 hP o _ hg ⟨_, c_ago (d := d) hg hw hT he, rO (by omega) (by omega), rO (by omega) (by omega), fun h => ?_, fun h => ?_⟩
  · rwa [b2_f (fun q => by have := hj.mpr q; omega)] at hQ
  · rwa [b2_t (hj.mp (by omega))] at hQ
def lef (w : Wl) (e : Nat) : Int := if opn w e ∧ ¬ jnt w e then w 0 4 - (w 0 3 - w 3 (e / 3)) else -1000
theorem c_lef {e : Nat} (hg : gWl g o) (hw : wOK T (cv σ o)) (hT : T ≤ 1000000) (he : e < 27) : Ca (d + 4) yX4_timeLeft [vR (some o), vI (e : Int)] g σ [vI (lef (cv σ o) e)] g σ := by
  refine ca_in cd_X4_timeLeft bd_X4_timeLeft rfl (by decide) (Nat.le_of_ble_eq_true rfl) (fun Q P hP hQ => ?_)
  refine k_X4_timeLeft_0 hP o _ hg ⟨_, c_opn (d := d + 1) hg hw hT he, b2_iR _, fun h => ?_, fun h => ⟨_, c_jnt (d := d) hg hw hT he, b2_iR _, fun h1 => ?_, fun h1 => ⟨_, c_ago (d := d + 1) hg hw hT he, ?_⟩⟩⟩
  · rw [lef, if_neg (fun q => b2_0 h q.1)] at hQ
    exact hQ
  · rw [lef, if_neg (fun q => q.2 (b2_1 h1))] at hQ
    exact hQ
  · have h2 := b2_1 h
    have h3 := b2_0 (Decidable.not_not.mp h1)
    rw [lef, if_pos ⟨h2, h3⟩] at hQ
    rw [ago, if_pos ⟨h2.1, h2.2.1⟩, if_pos h2.2.2, ← cv0 (σ := σ) (o := o) (show 4 < 8 by decide)]
    exact hQ
theorem c_hof {e : Nat} (hg : gWl g o) (he : e < 27) : Ca (d + 1) yX4_harmOf [vR (some o), vI (e : Int)] g σ [vI (hof (cv σ o) e)] g σ := by
  refine ca_in cd_X4_harmOf bd_X4_harmOf rfl (by decide) (Nat.le_of_ble_eq_true rfl) (fun Q P hP hQ => ?_)
  refine k_X4_harmOf_0 hP o _ hg ?_
  rw [tmod3]
  refine ⟨rO (by omega) (by omega), rO (by omega) (by omega), fun h => ?_, fun h => ?_⟩
  · rw [hof, if_neg (by omega), cv0 (show 6 < 8 by decide)] at hQ
    exact hQ
  · rw [hof, if_pos (by omega), cv0 (show 5 < 8 by decide)] at hQ
    exact hQ
end W2
