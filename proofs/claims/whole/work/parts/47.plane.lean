/-! The class's plan: its small methods -/
def plR (σ : pM) (o : Nat) (w : Wl) : Prop := (σ o 4 = w 0 0 ∧ σ o 5 = w 0 1 ∧ σ o 6 = w 0 2 ∧ σ o 7 = w 0 4 ∧ σ o 8 = w 0 5 ∧ σ o 9 = w 0 6 ∧ σ o 10 = allN w ∧ σ o 11 = lsn w (w 0 2).toNat) ∧ (∀ c : Nat, (c : Int) < w 0 2 → σ (o + 1) c = w 1 c ∧ σ (o + 2) c = dn w c) ∧ (∀ i : Nat, i < 28 → σ (o + 5) i = arr w (i : Int))
section P5
variable {d : Nat} {g : pG} {σ : pM} {o : Nat} {T : Int} {w : Wl}
theorem dn_bd (hw : wOK T w) (hT : T ≤ 1000000) {c : Nat} (hc : c < 9) : (w 2 c = -1 ∧ dn w c = 1000000000) ∨ (¬ w 2 c = -1 ∧ 0 ≤ dn w c ∧ dn w c ≤ T) := by
  have h1 := hw.bd hc
  have h2 := hw.nd hc
  have h3 := hw.tm
  unfold dn
  split <;> omega
theorem c_arr {n : Int} (hg : gPl g o) (hp : plR σ o w) (h0 : 0 ≤ n) (h1 : iR n) : Ca (d + 1) yX3_arrivalOf [vR (some o), vI n] g σ [vI (arr w n)] g σ := by
  refine ca_in cd_X3_arrivalOf bd_X3_arrivalOf rfl (by decide) (Nat.le_of_ble_eq_true rfl) (fun Q P hP hQ => ?_)
  refine k_X3_arrivalOf_0 hP o n hg ⟨h1, fun z => absurd z (by omega), fun _ => ⟨h1, fun z => ⟨⟨by omega, by omega⟩, ?_⟩, fun z => ?_⟩⟩
  · rw [hp.2.2 n.toNat (by omega), Int.toNat_of_nonneg h0]; exact hQ
  · rw [arr, if_pos (Or.inl (by omega))] at hQ; exact hQ
theorem c_isNext {c : Nat} (hg : gPl g o) (hp : plR σ o w) (hw : wOK T w) (hT : T ≤ 1000000) (hc : (c : Int) < w 0 2) : Ca (d + 1) yX3_isNext [vR (some o), vI (c : Int)] g σ [vI (b2 (w 2 c = -1 ∧ (w 0 0 ≤ (c : Int) → ¬ w 2 (c - (w 0 0).toNat) = -1)))] g σ := by
  refine ca_in cd_X3_isNext bd_X3_isNext rfl (by decide) (Nat.le_of_ble_eq_true rfl) (fun Q P hP hQ => ?_)
  have hcl := hw.cells
  have hst := hw.st
  have e4 := hp.1.1
  have e2 := (hp.2.1 c hc).2
  have b1 := dn_bd hw hT (show c < 9 by omega)
  refine k_X3_isNext_0 hP o _ hg ?_
  rw [Int.toNat_natCast, e2, e4]
  refine ⟨⟨by omega, by omega⟩, rO (by omega) (by omega), fun h => ?_, fun h => ⟨rO (by omega) (by omega), rO (by omega) (by omega), fun h1 => ?_, fun h1 => ?_⟩⟩
  · rwa [b2_f (fun q => by omega)] at hQ
  · rwa [b2_t ⟨by omega, fun q => by omega⟩] at hQ
  · have en : ((c : Int) - w 0 0).toNat = c - (w 0 0).toNat := by omega
    have e3 := (hp.2.1 (c - (w 0 0).toNat) (by omega)).2
    have b3 := dn_bd hw hT (show c - (w 0 0).toNat < 9 by omega)
    rw [en, e3]
    refine ⟨⟨by omega, by omega⟩, rO (by omega) (by omega), fun h2 => ?_, fun h2 => ?_⟩
    · rwa [b2_f (fun q => q.2 (by omega) (by omega))] at hQ
    · rwa [b2_t ⟨by omega, fun _ => by omega⟩] at hQ
theorem c_hC {c : Nat} {st : Int} (hg : gPl g o) (hp : plR σ o w) (hw : wOK T w) (hT : T ≤ 1000000) (hc : (c : Int) < w 0 2) (hs : -1000000 ≤ st ∧ st ≤ 1100000000) : Ca (d + 1) yX3_harmCovering [vR (some o), vI (c : Int), vI st] g σ [vI (hC w c st)] g σ := by
  refine ca_in cd_X3_harmCovering bd_X3_harmCovering rfl (by decide) (Nat.le_of_ble_eq_true rfl) (fun Q P hP hQ => ?_)
  have hcl := hw.cells
  have hst := hw.st
  have hag := hw.ag
  have hhv := hw.hv
  have hlg := hw.lg
  obtain ⟨⟨e4, -, -, e7, e8, e9, -, -⟩, er, -⟩ := hp
  have md0 := Int.emod_nonneg (c : Int) (show w 0 0 ≠ 0 by omega)
  have md1 := Int.emod_lt_of_pos (c : Int) (show 0 < w 0 0 by omega)
  have hmod : Int.tmod (c : Int) (w 0 0) = (c : Int) % w 0 0 := Int.tmod_eq_emod_of_nonneg (by omega)
  have s119 : ∀ x5, x5 = hC w c st → P 119 [(5, vI x5)] [] g σ 0 0 := fun x5 h => kk_X3_harmCovering_119 hP o x5 hg (by rw [h]; exact hQ)
  have s87 : ∀ x5, x5 = (if w 0 0 ≤ (c : Int) ∧ dn w (c - (w 0 0).toNat) < st - w 0 4 then w 0 5 else 0) + (if 0 < (c : Int) % w 0 0 ∧ dn w (c - 1) < st - w 0 4 then w 0 6 else 0) → P 87 [(0, vR (some o)), (1, vI (c : Int)), (3, vI ((c : Int) % w 0 0)), (4, vI (st - w 0 4)), (5, vI x5)] [] g σ 0 0 := by
    intro x5 h
    refine kk_X3_harmCovering_87 hP o _ _ _ _ hg ?_
    rw [e4, e9]
    refine ⟨rO (by omega) (by omega), rO (by omega) (by omega), fun h1 => s119 _ ?_, fun h1 => ?_⟩
    · rw [hC, ← h, if_neg (fun z => by omega)]; omega
    · have hk1 : ((c + 1 : Nat) : Int) < w 0 2 := by
        have := mt (fun z => modE hw (c := c) z) (fun z => z (by omega))
        omega
      have b3 := dn_bd hw hT (show c + 1 < 9 by omega)
      rw [show ((c : Int) + 1).toNat = c + 1 by omega, (er (c + 1) hk1).2]
      refine ⟨⟨by omega, by omega⟩, rO (by omega) (by omega), rO (by omega) (by omega), fun h2 => s119 _ ?_, fun h2 => s119 _ ?_⟩
      · rw [hC, ← h, if_neg (fun z => by omega)]; omega
      · rw [hC, ← h, if_pos ⟨by omega, by omega⟩]
  have s61 : ∀ x5, x5 = (if w 0 0 ≤ (c : Int) ∧ dn w (c - (w 0 0).toNat) < st - w 0 4 then w 0 5 else 0) → P 61 [(0, vR (some o)), (1, vI (c : Int)), (3, vI ((c : Int) % w 0 0)), (4, vI (st - w 0 4)), (5, vI x5)] [] g σ 0 0 := by
    intro x5 h
    refine kk_X3_harmCovering_61 hP o _ _ _ _ hg ?_
    rw [e9]
    refine ⟨rO (by omega) (by omega), fun h1 => s87 _ ?_, fun h1 => ?_⟩
    · rw [← h, if_neg (fun z => by omega)]; omega
    · have hc0 : c ≠ 0 := fun z => by rw [z] at h1; exact mod0 (w 0 0) (by omega)
      have b3 := dn_bd hw hT (show c - 1 < 9 by omega)
      rw [show ((c : Int) - 1).toNat = c - 1 by omega, (er (c - 1) (by omega)).2]
      refine ⟨⟨by omega, by omega⟩, rO (by omega) (by omega), rO (by omega) (by omega), fun h2 => s87 _ ?_, fun h2 => s87 _ ?_⟩
      · rw [← h, if_neg (fun z => by omega)]; omega
      · rw [← h, if_pos ⟨by omega, by omega⟩]
  refine kk_X3_harmCovering_0 hP o _ _ hg ?_
  rw [e4, e7, e8, hmod]
  refine ⟨rO (by omega) (by omega), fun _ => ⟨⟨rO (by omega) (by omega), rO (by omega) (by omega), by omega⟩, rO (by omega) (by omega), rO (by omega) (by omega), fun h1 => s61 _ ?_, fun h1 => ?_⟩, fun z => absurd (by omega) z⟩
  · rw [if_neg (fun z => by omega)]
  · have b3 := dn_bd hw hT (show c - (w 0 0).toNat < 9 by omega)
    rw [show ((c : Int) - w 0 0).toNat = c - (w 0 0).toNat by omega, (er (c - (w 0 0).toNat) (by omega)).2]
    refine ⟨⟨by omega, by omega⟩, rO (by omega) (by omega), rO (by omega) (by omega), fun h2 => s61 _ ?_, fun h2 => s61 _ ?_⟩
    · rw [if_neg (fun z => by omega)]
    · rw [if_pos ⟨by omega, by omega⟩]; omega
theorem hts_bd (hw : wOK T w) {t u : Int} (ht : 0 ≤ t ∧ t ≤ 100000) (hu : 0 ≤ u ∧ u ≤ 27) {p : Nat} (hp : (p : Int) < w 0 0) : ∀ l : Nat, (l : Int) ≤ w 0 1 → (0 ≤ (hts w t u p l).1 ∧ (hts w t u p l).1 ≤ 27 * l) ∧ (0 ≤ (hts w t u p l).2.1 ∧ (hts w t u p l).2.1 ≤ 1000100000 + 3 * l) ∧ (0 ≤ (hts w t u p l).2.2 ∧ (hts w t u p l).2.2 ≤ 27 + 3 * l)
  | 0, _ => by
    show (0 ≤ (0 : Int) ∧ (0 : Int) ≤ 27 * 0) ∧ (0 ≤ t ∧ t ≤ 1000100000 + 3 * 0) ∧ (0 ≤ u ∧ u ≤ 27 + 3 * 0)
    omega
  | l + 1, hl => by
    obtain ⟨i1, i2, i3⟩ := hts_bd hw ht hu hp l (by omega)
    have hc := strip_cell hw (l := l) (p := p) (by omega) hp
    have hcl := hw.cells
    have hn := hw.nd (k := l * (w 0 0).toNat + p) (by omega)
    have ha := arr_bd hw ((hts w t u p l).2.2 + w 1 (l * (w 0 0).toNat + p))
    have hh := hC_bd hw (l * (w 0 0).toNat + p) (max (hts w t u p l).2.1 (arr w ((hts w t u p l).2.2 + w 1 (l * (w 0 0).toNat + p))))
    rw [hts, htS]
    split
    · refine ⟨⟨?_, ?_⟩, ⟨?_, ?_⟩, ⟨?_, ?_⟩⟩ <;> dsimp only <;> omega
    · omega
theorem c_htc {t u : Int} (hg : gPl g o) (hp : plR σ o w) (hw : wOK T w) (hT : T ≤ 1000000) (ht : 0 ≤ t ∧ t ≤ 100000) (hu : 0 ≤ u ∧ u ≤ 27) : Ca (d + 2) yX3_harmToCome [vR (some o), vI t, vI u] g σ [vI (htc w t u)] g σ := by
  refine ca_in cd_X3_harmToCome bd_X3_harmToCome rfl (by decide) (Nat.le_of_ble_eq_true rfl) (fun Q P hP hQ => ?_)
  have hcl := hw.cells
  have hst := hw.st
  have hly := hw.ly
  have hp2 := hp
  obtain ⟨⟨e4, e5, e6, -, -, -, -, -⟩, er, -⟩ := hp2
  refine k_X3_harmToCome_0 hP o t u hg ?_
  have outer : ∀ (m p : Nat), (p : Int) + m = w 0 0 → P 5 [(0, vR (some o)), (1, vI t), (2, vI u), (3, vI (su (fun p => (hts w t u p (w 0 1).toNat).1) p)), (4, vI (p : Int))] [] g σ 0 0 := by
    intro m
    induction m with
    | zero =>
      intro p hpm
      refine k_X3_harmToCome_5 hP o _ _ _ _ hg ?_
      rw [e4]
      refine ⟨rO (by omega) (by omega), rO (by omega) (by omega), fun _ => ?_, fun z => absurd (by omega) z⟩
      rw [show p = (w 0 0).toNat by omega]
      exact hQ
    | succ m ih =>
      intro p hpm
      have hi := ih (p + 1) (by omega)
      rw [su] at hi
      refine k_X3_harmToCome_5 hP o _ _ _ _ hg ?_
      rw [e4]
      refine ⟨rO (by omega) (by omega), rO (by omega) (by omega), fun z => absurd z (by omega), fun _ => ?_⟩
      have inner : ∀ (m2 l : Nat), (l : Int) + m2 = w 0 1 → P 23 [(0, vR (some o)), (1, vI t), (2, vI u), (3, vI (su (fun p => (hts w t u p (w 0 1).toNat).1) p + (hts w t u p l).1)), (4, vI (p : Int)), (5, vI (hts w t u p l).2.1), (6, vI (hts w t u p l).2.2), (7, vI (l : Int))] [] g σ 0 0 := by
        intro m2
        induction m2 with
        | zero =>
          intro l hl
          refine k_X3_harmToCome_23 hP o _ _ _ _ _ _ _ hg ?_
          rw [e5]
          refine ⟨rO (by omega) (by omega), rO (by omega) (by omega), fun _ => ?_, fun z => absurd (by omega) z⟩
          rw [show l = (w 0 1).toNat by omega]
          exact hi
        | succ m2 ih2 =>
          intro l hl
          have hj := ih2 (l + 1) (by omega)
          have hb := hts_bd hw ht hu (p := p) (by omega) l (by omega)
          have hcc := strip_cell hw (l := l) (p := p) (by omega) (by omega)
          have en : (l : Int) * w 0 0 + (p : Int) = ((l * (w 0 0).toNat + p : Nat) : Int) := by
            rw [Int.natCast_add, Int.natCast_mul, Int.toNat_of_nonneg (by omega)]
          have dnb := dn_bd hw hT (show l * (w 0 0).toNat + p < 9 by omega)
          have hnd := hw.nd (k := l * (w 0 0).toNat + p) (by omega)
          have hab := arr_bd hw ((hts w t u p l).2.2 + w 1 (l * (w 0 0).toNat + p))
          refine k_X3_harmToCome_23 hP o _ _ _ _ _ _ _ hg ?_
          rw [e4, e5, e6, en, Int.toNat_natCast, (er _ hcc).1, (er _ hcc).2]
          refine ⟨rO (by omega) (by omega), rO (by omega) (by omega), fun z => absurd z (by omega), fun _ => ⟨rO (by omega) (by omega), rO (by omega) (by omega), fun z => absurd z (by omega), fun _ => ⟨⟨by omega, by omega⟩, rO (by omega) (by omega), fun h1 => ⟨⟨by omega, by omega⟩, _, c_arr (d := d) hg hp (by omega) (rO (by omega) (by omega)), _, c_max (d := d) (rO (by omega) (by omega)) (rO (by omega) (by omega)), _, c_hC (d := d) hg hp hw hT hcc ⟨by omega, by omega⟩, ⟨by omega, by omega⟩, ?_⟩, fun h1 => ?_⟩⟩⟩
          · rw [hts, htS, if_pos (by omega)] at hj
            rw [Int.add_assoc]
            exact hj
          · rw [hts, htS, if_neg (by omega)] at hj
            exact hj
      have h0 := inner (w 0 1).toNat 0 (by omega)
      rw [show (hts w t u p 0).1 = 0 from rfl, Int.add_zero] at h0
      exact h0
  exact outer (w 0 0).toNat 0 (by omega)
theorem c_lend {t u : Int} (hg : gPl g o) (hp : plR σ o w) (hw : wOK T w) (ht : 0 ≤ t ∧ t ≤ 100000) (hu : 0 ≤ u ∧ u ≤ 27) : Ca (d + 2) yX3_leastEnd [vR (some o), vI t, vI u] g σ [vI (if allN w - u = 0 then t else max (t + (allN w - u)) (arr w (allN w) + lsn w (w 0 2).toNat))] g σ := by
  refine ca_in cd_X3_leastEnd bd_X3_leastEnd rfl (by decide) (Nat.le_of_ble_eq_true rfl) (fun Q P hP hQ => ?_)
  have hab := allN_bd hw
  have har := arr_bd hw (allN w)
  have hls := lsn_bd hw (w 0 2).toNat (by have := hw.cells; omega)
  have e10 := hp.1.2.2.2.2.2.2.1
  have e11 := hp.1.2.2.2.2.2.2.2
  refine k_X3_leastEnd_0 hP o _ _ hg ?_
  rw [e10, e11]
  refine ⟨rO (by omega) (by omega), fun h => ⟨_, c_arr (d := d) hg hp (by omega) (rO (by omega) (by omega)), _, c_max (d := d) (rO (by omega) (by omega)) (rO (by omega) (by omega)), ?_⟩, fun h => ?_⟩
  · rw [if_neg h] at hQ; exact hQ
  · rw [if_pos (Decidable.not_not.mp h)] at hQ; exact hQ
theorem c_mbb {H E : Int} (hg : gPl g o) (hH : iR H) (hE : iR E) (h0 : iR (σ o 0)) (h2 : iR (σ o 2)) (h3 : iR (σ o 3)) (h12 : iR (σ o 12)) : Ca (d + 1) yX3_mayBeBetter [vR (some o), vI H, vI E] g σ [vI (b2 (mbb (σ o 12) (σ o 0) (σ o 2) (σ o 3) H E))] g σ := by
  refine ca_in cd_X3_mayBeBetter bd_X3_mayBeBetter rfl (by decide) (Nat.le_of_ble_eq_true rfl) (fun Q P hP hQ => ?_)
  refine k_X3_mayBeBetter_0 hP o _ _ hg ⟨hH, h2, fun q1 => ⟨hE, h3, fun q2 => ?_, fun q2 => ⟨h0, fun q3 => ?_, fun q3 => ⟨h12, fun q4 => ?_, fun q4 => ?_⟩⟩⟩, fun q1 => ⟨hH, h2, fun q2 => ?_, fun q2 => ?_⟩⟩
  · rwa [b2_f (by omega)] at hQ
  · rwa [b2_t (Or.inr ⟨q1, by omega, fun z => z.1 q3⟩)] at hQ
  · rwa [b2_f (by omega)] at hQ
  · rwa [b2_t (Or.inr ⟨q1, by omega, fun z => q4 z.2⟩)] at hQ
  · rwa [b2_f (by omega)] at hQ
  · rwa [b2_t (Or.inl (by omega))] at hQ
abbrev cBs (σ : pM) (o : Nat) (ceil : Int) (N : Nat) (b : Bs) : Prop := cB (σ o 12) ceil (σ o 0) (σ o 2) (σ o 3) (σ (o + 4)) N b
theorem cBs.r {ceil : Int} {N : Nat} {b : Bs} (h : cBs σ o ceil N b) : (σ o 12 = 0 ∨ σ o 12 = 1) ∧ (σ o 0 = 0 ∨ σ o 0 = 1) ∧ (-1 ≤ σ o 2 ∧ σ o 2 ≤ 1000000000) ∧ (0 ≤ σ o 3 ∧ σ o 3 ≤ 1000000000) := by
  rcases h with ⟨ha, h⟩ | ⟨ha, hc, h⟩
  · cases b with
    | none => obtain ⟨h1, h2, h3⟩ := h; omega
    | some q => obtain ⟨h1, h2, h3, h4, h5, -⟩ := h; omega
  · rcases h with ⟨h1, h2, h3, h4⟩ | ⟨q, h1, h2, h3, h4, h5⟩ | ⟨q, h1, h2, h3, h4, h5⟩ <;> omega
/-- nothing changes but what the search writes -/
def Fp (o : Nat) (σ σ2 : pM) : Prop := (∀ x, x ≠ o → x ≠ o + 2 → x ≠ o + 3 → x ≠ o + 4 → σ2 x = σ x) ∧ ∀ i, i ≠ 0 → i ≠ 2 → i ≠ 3 → σ2 o i = σ o i
theorem Fp.rf : Fp o σ σ := ⟨fun _ _ _ _ _ => rfl, fun _ _ _ _ => rfl⟩
theorem Fp.tr {σ2 σ3 : pM} (h : Fp o σ σ2) (h2 : Fp o σ2 σ3) : Fp o σ σ3 := ⟨fun x a b c e => (h2.1 x a b c e).trans (h.1 x a b c e), fun i a b c => (h2.2 i a b c).trans (h.2 i a b c)⟩
theorem c_take {N : Nat} {ceil : Int} {b : Bs} {ch : Nat → Int} (hg : gPl g o) (hw : wOK T w) (hT : T ≤ 1000000) (hN : N ≤ 9) (hb : cBs σ o ceil N b) (hch : ∀ j, j < N → σ (o + 3) j = ch j) : ∃ σ2, Ca (d + 2) yX3_take [vR (some o), vI (w 0 3), vI (hrm w)] g σ [] g σ2 ∧ cBs σ2 o ceil N (lf w ch b) ∧ Fp o σ σ2 ∧ σ2 (o + 2) = σ (o + 2) ∧ σ2 (o + 3) = σ (o + 3) := by
  have hr := hb.r
  have hh := hrm_bd hw
  have ht := hw.tm
  have i0 : iR (σ o 0) := rO (by omega) (by omega)
  have i2 : iR (σ o 2) := rO (by omega) (by omega)
  have i3 : iR (σ o 3) := rO (by omega) (by omega)
  have i12 : iR (σ o 12) := rO (by omega) (by omega)
  have hm := c_mbb (d := d) (H := hrm w) (E := w 0 3) hg (rO (by omega) (by omega)) (rO (by omega) (by omega)) i0 i2 i3 i12
  by_cases hq : mbb (σ o 12) (σ o 0) (σ o 2) (σ o 3) (hrm w) (w 0 3)
  · have e12 : (up2 σ o 0 1) o 12 = σ o 12 := by simp [up2]
    have e2 : (up2 σ o 0 1) o 2 = σ o 2 := by simp [up2]
    have fin : ∀ v : Int, v = (if ¬ σ o 12 = 0 ∧ hrm w < σ o 2 then -1 else hrm w) → cBs (cR (up2 (up2 (up2 σ o 0 1) o 2 v) o 3 (w 0 3)) (o + 3) (o + 4) 9) o ceil N (lf w ch b) ∧ Fp o σ (cR (up2 (up2 (up2 σ o 0 1) o 2 v) o 3 (w 0 3)) (o + 3) (o + 4) 9) ∧ (cR (up2 (up2 (up2 σ o 0 1) o 2 v) o 3 (w 0 3)) (o + 3) (o + 4) 9) (o + 2) = σ (o + 2) ∧ (cR (up2 (up2 (up2 σ o 0 1) o 2 v) o 3 (w 0 3)) (o + 3) (o + 4) 9) (o + 3) = σ (o + 3) := by
      intro v hv
      have z0 : (cR (up2 (up2 (up2 σ o 0 1) o 2 v) o 3 (w 0 3)) (o + 3) (o + 4) 9) o 0 = 1 := by simp [cR, up2]
      have z2 : (cR (up2 (up2 (up2 σ o 0 1) o 2 v) o 3 (w 0 3)) (o + 3) (o + 4) 9) o 2 = v := by simp [cR, up2]
      have z3 : (cR (up2 (up2 (up2 σ o 0 1) o 2 v) o 3 (w 0 3)) (o + 3) (o + 4) 9) o 3 = w 0 3 := by simp [cR, up2]
      have z12 : (cR (up2 (up2 (up2 σ o 0 1) o 2 v) o 3 (w 0 3)) (o + 3) (o + 4) 9) o 12 = σ o 12 := by simp [cR, up2]
      have z4 : ∀ j, j < N → (cR (up2 (up2 (up2 σ o 0 1) o 2 v) o 3 (w 0 3)) (o + 3) (o + 4) 9) (o + 4) j = ch j := fun j hj => by
        rw [← hch j hj]
        simp [cR, up2, show j < 9 by omega]
      refine ⟨?_, ⟨fun x h1 h2 h3 h4 => ?_, fun i h1 h2 h3 => ?_⟩, ?_, ?_⟩
      · show cB _ _ _ _ _ _ _ _
        rw [z0, z2, z3, z12]
        have hx := lf_yes (by omega) (by omega) hq z4 hb
        rw [← hv] at hx
        exact hx
      · funext j
        simp [cR, up2, h1, h4]
      · simp [cR, up2, h1, h2, h3]
      · funext j
        simp [cR, up2]
      · funext j
        simp [cR, up2]
    by_cases ha : σ o 12 = 0
    · refine ⟨_, ca_in cd_X3_take bd_X3_take rfl (by decide) (Nat.le_of_ble_eq_true rfl) (fun Q P hP hQ => ?_), fin (hrm w) (by rw [if_neg (fun z => z.1 ha)])⟩
      refine k_X3_take_0 hP o _ _ hg ⟨_, hm, b2_iR _, fun _ => ?_, fun z => absurd (b2_t hq) (by have := Decidable.not_not.mp z; omega)⟩
      rw [e12, e2]
      exact ⟨i12, fun _ => ⟨_, c_copyRow (d := d) hg.a3 hg.a4 rfl (by decide) (by omega), hQ⟩, fun z => absurd ha z⟩
    · by_cases hl : hrm w < σ o 2
      · refine ⟨_, ca_in cd_X3_take bd_X3_take rfl (by decide) (Nat.le_of_ble_eq_true rfl) (fun Q P hP hQ => ?_), fin (-1) (by rw [if_pos ⟨ha, hl⟩])⟩
        refine k_X3_take_0 hP o _ _ hg ⟨_, hm, b2_iR _, fun _ => ?_, fun z => absurd (b2_t hq) (by have := Decidable.not_not.mp z; omega)⟩
        rw [e12, e2]
        exact ⟨i12, fun z => absurd z ha, fun _ => ⟨rO (by omega) (by omega), i2, fun z => absurd z (by omega), fun _ => ⟨_, c_copyRow (d := d) hg.a3 hg.a4 rfl (by decide) (by omega), hQ⟩⟩⟩
      · refine ⟨_, ca_in cd_X3_take bd_X3_take rfl (by decide) (Nat.le_of_ble_eq_true rfl) (fun Q P hP hQ => ?_), fin (hrm w) (by rw [if_neg (fun z => hl z.2)])⟩
        refine k_X3_take_0 hP o _ _ hg ⟨_, hm, b2_iR _, fun _ => ?_, fun z => absurd (b2_t hq) (by have := Decidable.not_not.mp z; omega)⟩
        rw [e12, e2]
        exact ⟨i12, fun z => absurd z ha, fun _ => ⟨rO (by omega) (by omega), i2, fun _ => ⟨_, c_copyRow (d := d) hg.a3 hg.a4 rfl (by decide) (by omega), hQ⟩, fun z => absurd (by omega) z⟩⟩
  · refine ⟨σ, ca_in cd_X3_take bd_X3_take rfl (by decide) (Nat.le_of_ble_eq_true rfl) (fun Q P hP hQ => ?_), lf_no (by omega) (by omega) hq hb, Fp.rf, rfl, rfl⟩
    exact k_X3_take_0 hP o _ _ hg ⟨_, hm, b2_iR _, fun z => absurd (b2_f hq) z, fun _ => hQ⟩
end P5
