/-! The class's search -/
section P6
variable {d : Nat} {g : pG} {o : Nat}
theorem plR_fil {s : pM} {w : Wl} {k j : Nat} {x : Int} (hp : plR s o w) (h : ¬ stt w k = -1) : plR (up2 (up2 s (o + 3) j x) (o + 2) k (stt w k + w 1 k)) o (fil w k) := by
  obtain ⟨⟨h4, h5, h6, h7, h8, h9, h10, h11⟩, hr, ha⟩ := hp
  have eo : (up2 (up2 s (o + 3) j x) (o + 2) k (stt w k + w 1 k)) o = s o := by rw [up2_ne (by omega), up2_ne (by omega)]
  have e1 : (up2 (up2 s (o + 3) j x) (o + 2) k (stt w k + w 1 k)) (o + 1) = s (o + 1) := by rw [up2_ne (by omega), up2_ne (by omega)]
  have e5 : (up2 (up2 s (o + 3) j x) (o + 2) k (stt w k + w 1 k)) (o + 5) = s (o + 5) := by rw [up2_ne (by omega), up2_ne (by omega)]
  unfold plR
  rw [eo, e1, e5, fil_n (show (0 : Nat) ≠ 3 by decide), fil_n (show (1 : Nat) ≠ 3 by decide), fil_n (show (2 : Nat) ≠ 3 by decide), fil_n (show (4 : Nat) ≠ 3 by decide), fil_n (show (5 : Nat) ≠ 3 by decide), fil_n (show (6 : Nat) ≠ 3 by decide), fil_allN, lsn_cong (w2 := fil w k) (w := w) (fil_n (by decide)) (fil_n (by decide)) (fil_r (by decide) (by decide) (by decide)), fil_r (show (1 : Nat) ≠ 0 by decide) (by decide) (by decide)]
  refine ⟨⟨h4, h5, h6, h7, h8, h9, h10, h11⟩, fun c hc => ⟨(hr c hc).1, ?_⟩, fun i hi => by rw [fil_arr]; exact ha i hi⟩
  by_cases hck : c = k
  · subst hck
    rw [dn, fil_2c h, if_neg h, fil_3c h]
    simp [up2]
  · rw [dn, fil_2k hck, fil_3k hck]
    have : (up2 (up2 s (o + 3) j x) (o + 2) k (stt w k + w 1 k)) (o + 2) c = s (o + 2) c := by simp [up2, hck]
    rw [this, (hr c hc).2]
    rfl
theorem plR_back {s : pM} {w : Wl} {k : Nat} (hp : plR s o (fil w k)) (h2 : w 2 k = -1) : plR (up2 s (o + 2) k 1000000000) o w := by
  obtain ⟨⟨h4, h5, h6, h7, h8, h9, h10, h11⟩, hr, ha⟩ := hp
  rw [fil_n (by decide)] at h4 h5 h6 h7 h8 h9 h11
  rw [fil_allN] at h10
  rw [lsn_cong (w2 := fil w k) (w := w) (fil_n (by decide)) (fil_n (by decide)) (fil_r (by decide) (by decide) (by decide))] at h11
  have eo : (up2 s (o + 2) k 1000000000) o = s o := by rw [up2_ne (by omega)]
  have e1 : (up2 s (o + 2) k 1000000000) (o + 1) = s (o + 1) := by rw [up2_ne (by omega)]
  have e5 : (up2 s (o + 2) k 1000000000) (o + 5) = s (o + 5) := by rw [up2_ne (by omega)]
  unfold plR
  rw [eo, e1, e5]
  refine ⟨⟨h4, h5, h6, h7, h8, h9, h10, h11⟩, fun c hc => ?_, fun i hi => by rw [ha i hi, fil_arr]⟩
  have hq := hr c (by rw [fil_n (by decide)]; exact hc)
  rw [fil_r (show (1 : Nat) ≠ 0 by decide) (by decide) (by decide)] at hq
  refine ⟨hq.1, ?_⟩
  by_cases hck : c = k
  · subst hck
    rw [dn, if_pos h2]
    simp [up2]
  · have : (up2 s (o + 2) k 1000000000) (o + 2) c = s (o + 2) c := by simp [up2, hck]
    rw [this, hq.2]
    unfold dn
    rw [fil_2k hck, fil_3k hck]
theorem cBs.up {s : pM} {a i : Nat} {v : Int} {ceil : Int} {N : Nat} {b : Bs} (ha : a = o + 2 ∨ a = o + 3) (h : cBs s o ceil N b) : cBs (up2 s a i v) o ceil N b := by
  have e1 : (up2 s a i v) o = s o := up2_ne (by omega)
  have e2 : (up2 s a i v) (o + 4) = s (o + 4) := up2_ne (by omega)
  unfold cBs
  rw [e1, e2]
  exact h
theorem Fp.up {s : pM} {a i : Nat} {v : Int} (ha : a = o + 2 ∨ a = o + 3) : Fp o s (up2 s a i v) :=
  ⟨fun x h1 h2 h3 h4 => up2_ne (by omega), fun j _ _ _ => by rw [up2_ne (by omega)]⟩
theorem htc_bd {T : Int} {w : Wl} (hw : wOK T w) {t u : Int} (ht : 0 ≤ t ∧ t ≤ 100000) (hu : 0 ≤ u ∧ u ≤ 27) : 0 ≤ htc w t u ∧ htc w t u ≤ 243 := by
  have hst := hw.st
  have hly := hw.ly
  have := su_bd (f := fun p => (hts w t u p (w 0 1).toNat).1) (a := 0) (b := 81) (n := (w 0 0).toNat) (fun p hp => by
    have := (hts_bd hw ht hu (p := p) (by omega) (w 0 1).toNat (by omega)).1
    omega)
  unfold htc
  omega
theorem hcv_bd {T : Int} {w : Wl} (hw : wOK T w) : 0 ≤ hcv w ∧ hcv w ≤ 243 := by
  have hcl := hw.cells
  have := su_bd (f := fun c => if w 2 c = -1 then 0 else hC w c (w 3 c - w 1 c)) (a := 0) (b := 27) (n := (w 0 2).toNat) (fun p hp => by
    have := hC_bd hw p (w 3 p - w 1 p)
    split <;> omega)
  unfold hcv
  omega
abbrev exC (d : Nat) (Q : pQ) (P : pP) : Prop := Clo (pCall d) yX3_extend cX3_extend none 10 0 0 Q P
theorem c_extend {N : Nat} {ceil : Int} (hg : gPl g o) (hN : N ≤ 9) : ∀ (n : Nat) (w : Wl) (dep : Nat) (ch : Nat → Int) (b : Bs) (T : Int) (σ : pM), dep + n = N → wOK T w → wS w → 200 ≤ T → T + 3 * n ≤ 90000 → un w = n → (n = 0 ∨ arr w (allN w) ≤ 200) → plR σ o w → σ o 1 = N → (∀ j, j < dep → σ (o + 3) j = ch j) → cBs σ o ceil N b →
    ∃ σ2, Ca (d + n + 3) yX3_extend [vR (some o), vI (dep : Int), vI (w 0 3), vI (hcv w), vI (used w)] g σ [] g σ2 ∧ plR σ2 o w ∧ (∀ j, j < dep → σ2 (o + 3) j = σ (o + 3) j) ∧ cBs σ2 o ceil N (exG n w ch dep b) ∧ Fp o σ σ2
  | 0, w, dep, ch, b, T, σ, hd, hw, hs, h200, hT, hu, hA, hp, h1, hch, hb => by
    obtain rfl : dep = N := by omega
    obtain ⟨σ2, q1, q2, q3, q4, q5⟩ := c_take (d := d) (w := w) hg hw (by omega) hN hb hch
    refine ⟨σ2, ?_, ?_, fun j _ => by rw [q5], q2, q3⟩
    · refine ca_in cd_X3_extend bd_X3_extend rfl (by decide) (Nat.le_of_ble_eq_true rfl) (fun Q P hP hQ => ?_)
      refine k_X3_extend_0 hP o _ _ _ _ hg ?_
      rw [h1, hcv_full hw (by omega)]
      exact ⟨rO (by omega) (by omega), rO (by omega) (by omega), fun _ => ⟨_, q1, hQ⟩, fun z => absurd (by omega) z⟩
    · obtain ⟨⟨h4, h5, h6, h7, h8, h9, h10, h11⟩, hr, ha⟩ := hp
      unfold plR
      rw [q3.2 4 (by decide) (by decide) (by decide), q3.2 5 (by decide) (by decide) (by decide), q3.2 6 (by decide) (by decide) (by decide), q3.2 7 (by decide) (by decide) (by decide), q3.2 8 (by decide) (by decide) (by decide), q3.2 9 (by decide) (by decide) (by decide), q3.2 10 (by decide) (by decide) (by decide), q3.2 11 (by decide) (by decide) (by decide), q4, q3.1 (o + 1) (by omega) (by omega) (by omega) (by omega), q3.1 (o + 5) (by omega) (by omega) (by omega) (by omega)]
      exact ⟨⟨h4, h5, h6, h7, h8, h9, h10, h11⟩, hr, ha⟩
  | n + 1, w, dep, ch, b, T, σ, hd, hw, hs, h200, hT, hu, hA, hp, h1, hch, hb => by
    have hcl := hw.cells
    have htm := hw.tm
    have hst := hw.st
    have hA2 : arr w (allN w) ≤ 200 := by omega
    have hub := used_bd hw
    have hhb := hcv_bd hw
    have B : ∀ (m k : Nat) (s : pM), (k : Int) + m = w 0 2 → plR s o w → (∀ j, j < dep → s (o + 3) j = σ (o + 3) j) → cBs s o ceil N (fl (fun c b => if stt w c = -1 then b else exG n (fil w c) (c1 ch dep c) (dep + 1) b) b k) → Fp o σ s →
        ∃ σ2, plR σ2 o w ∧ (∀ j, j < dep → σ2 (o + 3) j = σ (o + 3) j) ∧ cBs σ2 o ceil N (exG (n + 1) w ch dep b) ∧ Fp o σ σ2 ∧ ∀ (Q : pQ) (P : pP), exC (d + n + 3) Q P → Q [] g σ2 → P 27 [(0, vR (some o)), (1, vI (dep : Int)), (2, vI (w 0 3)), (3, vI (hcv w)), (4, vI (used w)), (5, vI (k : Int))] [] g s 0 0 := by
      intro m
      induction m with
      | zero =>
        intro k s hk hps hj hbs hfp
        refine ⟨s, hps, hj, ?_, hfp, fun Q P hP hQ => ?_⟩
        · rw [exG, show (w 0 2).toNat = k by omega]
          exact hbs
        · refine k_X3_extend_27 hP o _ _ _ _ _ hg ?_
          rw [hps.1.2.2.1]
          exact ⟨rO (by omega) (by omega), rO (by omega) (by omega), fun _ => hQ, fun z => absurd (by omega) z⟩
      | succ m ih =>
        intro k s hk hps hj hbs hfp
        have hk2 : (k : Int) < w 0 2 := by omega
        have hk9 : k < 9 := by omega
        have hnx := c_isNext (d := d + n + 2) (c := k) hg hps hw (by omega) hk2
        by_cases hnext : w 2 k = -1 ∧ (w 0 0 ≤ (k : Int) → ¬ w 2 (k - (w 0 0).toNat) = -1)
        · -- it can be poured
          have hua := used_all hw hk2 hnext.1
          have hal := allN_bd hw
          have hnd := hw.nd hk9
          have hstt : ¬ stt w k = -1 := by
            have := arr_mono hw hua
            have hb2 := bAt_bd hw (used w + w 1 k) (w 0 7).toNat (by have := hw.nt; omega)
            have hne : ¬ bAt w (used w + w 1 k) (w 0 7).toNat = -1 := fun z => by
              have : arr w (used w + w 1 k) = 1000000000 := if_pos (Or.inr z)
              omega
            rw [stt, if_pos ⟨hk2, hnext⟩, if_neg hne]
            omega
          have hsa := stt_arr hw hstt
          have hsb := stt_bd hw (by omega) k
          have hab := arr_bd hw (used w + w 1 k)
          have hS2 : 0 ≤ stt w k := by omega
          have hok := fil_ok hw h200 hk9
          have hws := fil_wS (c := k) hs
          have hun := fil_un hw hstt
          have hus := fil_used hw (by omega) hstt
          have hti := fil_t hstt
          have hub2 := used_bd hok
          have htm2 := hok.tm
          have hhc := fil_hcv hw (by omega) (by omega) hstt
          have hcb := hC_bd hw k (stt w k)
          have hps2 := plR_fil (j := dep) (x := (k : Int)) hps hstt
          have hht := htc_bd hok (t := stt w k + w 1 k) (u := used w + w 1 k) (by omega) (by omega)
          have hlb : lbH (fil w k) = hcv w + hC w k (stt w k) + htc (fil w k) (stt w k + w 1 k) (used w + w 1 k) := by
            rw [lbH, hhc, hti, hus]
          have hle := c_lend (d := d + n + 1) hg hps2 hok (t := stt w k + w 1 k) (u := used w + w 1 k) (by omega) (by omega)
          have hlE : (if allN (fil w k) - (used w + w 1 k) = 0 then stt w k + w 1 k else max (stt w k + w 1 k + (allN (fil w k) - (used w + w 1 k))) (arr (fil w k) (allN (fil w k)) + lsn (fil w k) (fil w k 0 2).toNat)) = lbE (fil w k) := by
            rw [lbE, hti, hus]
          rw [hlE] at hle
          have hlEb : -1000000 ≤ lbE (fil w k) ∧ lbE (fil w k) ≤ 1000000 := by
            have q1 := allN_bd hok
            have q2 : arr (fil w k) (allN (fil w k)) ≤ 200 := by rw [fil_arr, fil_allN]; exact hA2
            have q3 := arr_bd hok (allN (fil w k))
            have q4 := lsn_bd hok (fil w k 0 2).toNat (by have := hok.cells; omega)
            unfold lbE
            split <;> omega
          have hbs2 := (hbs.up (a := o + 3) (i := dep) (v := (k : Int)) (Or.inr rfl)).up (a := o + 2) (i := k) (v := stt w k + w 1 k) (Or.inl rfl)
          have hr2 := hbs2.r
          have hm := c_mbb (d := d + n + 2) (H := hcv w + hC w k (stt w k) + htc (fil w k) (stt w k + w 1 k) (used w + w 1 k)) (E := lbE (fil w k)) hg (rO (by omega) (by omega)) (rO (by omega) (by omega)) (σ := up2 (up2 s (o + 3) dep (k : Int)) (o + 2) k (stt w k + w 1 k)) (rO (by omega) (by omega)) (rO (by omega) (by omega)) (rO (by omega) (by omega)) (rO (by omega) (by omega))
          have hor : ∀ j, j < dep → (up2 (up2 s (o + 3) dep (k : Int)) (o + 2) k (stt w k + w 1 k)) (o + 3) j = σ (o + 3) j := fun j h => by
            rw [← hj j h]
            have : ¬ j = dep := by omega
            simp [up2, this]
          have hord : (up2 (up2 s (o + 3) dep (k : Int)) (o + 2) k (stt w k + w 1 k)) (o + 3) dep = (k : Int) := by simp [up2]
          have frs : Fp o s (up2 (up2 s (o + 3) dep (k : Int)) (o + 2) k (stt w k + w 1 k)) := (Fp.up (Or.inr rfl)).tr (Fp.up (Or.inl rfl))
          have walk : ∀ (σ2 : pM) (Q : pQ) (P : pP), exC (d + n + 3) Q P → (b2 (mbb ((up2 (up2 s (o + 3) dep (k : Int)) (o + 2) k (stt w k + w 1 k)) o 12) ((up2 (up2 s (o + 3) dep (k : Int)) (o + 2) k (stt w k + w 1 k)) o 0) ((up2 (up2 s (o + 3) dep (k : Int)) (o + 2) k (stt w k + w 1 k)) o 2) ((up2 (up2 s (o + 3) dep (k : Int)) (o + 2) k (stt w k + w 1 k)) o 3) (hcv w + hC w k (stt w k) + htc (fil w k) (stt w k + w 1 k) (used w + w 1 k)) (lbE (fil w k))) = 0 → P 27 [(0, vR (some o)), (1, vI (dep : Int)), (2, vI (w 0 3)), (3, vI (hcv w)), (4, vI (used w)), (5, vI ((k : Int) + 1))] [] g (up2 (up2 (up2 s (o + 3) dep (k : Int)) (o + 2) k (stt w k + w 1 k)) (o + 2) k 1000000000) 0 0) → (¬ b2 (mbb ((up2 (up2 s (o + 3) dep (k : Int)) (o + 2) k (stt w k + w 1 k)) o 12) ((up2 (up2 s (o + 3) dep (k : Int)) (o + 2) k (stt w k + w 1 k)) o 0) ((up2 (up2 s (o + 3) dep (k : Int)) (o + 2) k (stt w k + w 1 k)) o 2) ((up2 (up2 s (o + 3) dep (k : Int)) (o + 2) k (stt w k + w 1 k)) o 3) (hcv w + hC w k (stt w k) + htc (fil w k) (stt w k + w 1 k) (used w + w 1 k)) (lbE (fil w k))) = 0 → ∃ (s8 : pM), Ca (d + n + 3) yX3_extend [vR (some o), vI ((dep : Int) + 1), vI (stt w k + w 1 k), vI (hcv w + hC w k (stt w k)), vI (used w + w 1 k)] g (up2 (up2 s (o + 3) dep (k : Int)) (o + 2) k (stt w k + w 1 k)) [] g s8 ∧ P 27 [(0, vR (some o)), (1, vI (dep : Int)), (2, vI (w 0 3)), (3, vI (hcv w)), (4, vI (used w)), (5, vI ((k : Int) + 1))] [] g (up2 s8 (o + 2) k 1000000000) 0 0) → P 27 [(0, vR (some o)), (1, vI (dep : Int)), (2, vI (w 0 3)), (3, vI (hcv w)), (4, vI (used w)), (5, vI (k : Int))] [] g s 0 0 := by
            intro σ2 Q P hP k1 k2
            refine k_X3_extend_27 hP o _ _ _ _ _ hg ?_
            rw [hps.1.2.2.1, Int.toNat_natCast, Int.toNat_natCast, (hps.2.1 k hk2).1]
            refine ⟨rO (by omega) (by omega), rO (by omega) (by omega), fun z => absurd z (by omega), fun _ => ⟨_, hnx, b2_iR _, fun _ => ⟨⟨by omega, by omega⟩, _, c_arr (d := d + n + 2) hg hps (by omega) (rO (by omega) (by omega)), _, c_max (d := d + n + 2) (rO (by omega) (by omega)) (rO (by omega) (by omega)), ?_⟩, fun z => absurd (b2_t hnext) (by have := Decidable.not_not.mp z; omega)⟩⟩
            rw [← hsa]
            refine ⟨_, c_hC (d := d + n + 2) hg hps hw (by omega) hk2 ⟨by omega, by omega⟩, ⟨by omega, by omega⟩, ⟨by omega, by omega⟩, ⟨by omega, by omega⟩, _, c_htc (d := d + n + 1) hg hps2 hok (by omega) (by omega) (by omega), _, hle, _, hm, b2_iR _, fun z => ⟨⟨by omega, by omega⟩, k1 z⟩, fun z => ?_⟩
            obtain ⟨s8, k3, k4⟩ := k2 z
            exact ⟨s8, k3, ⟨by omega, by omega⟩, k4⟩
          by_cases hmb : mbb ((up2 (up2 s (o + 3) dep (k : Int)) (o + 2) k (stt w k + w 1 k)) o 12) ((up2 (up2 s (o + 3) dep (k : Int)) (o + 2) k (stt w k + w 1 k)) o 0) ((up2 (up2 s (o + 3) dep (k : Int)) (o + 2) k (stt w k + w 1 k)) o 2) ((up2 (up2 s (o + 3) dep (k : Int)) (o + 2) k (stt w k + w 1 k)) o 3) (hcv w + hC w k (stt w k) + htc (fil w k) (stt w k + w 1 k) (used w + w 1 k)) (lbE (fil w k))
          · -- on
            obtain ⟨s8, t1, t2, t3, t4, t5⟩ := c_extend (ceil := ceil) hg hN n (fil w k) (dep + 1) (c1 ch dep k) _ (T + 3) (up2 (up2 s (o + 3) dep (k : Int)) (o + 2) k (stt w k + w 1 k)) (by omega) hok hws (by omega) (by omega) (by omega) (Or.inr (by rw [fil_arr, fil_allN]; exact hA2)) hps2 (by rw [frs.2 1 (by decide) (by decide) (by decide), hfp.2 1 (by decide) (by decide) (by decide)]; exact h1) (fun j h => by
              by_cases hjd : j = dep
              · rw [hjd, hord]; simp [c1]
              · rw [hor j (by omega), hch j (by omega)]; simp [c1, hjd]) hbs2
            rw [hti, hhc, hus] at t1
            obtain ⟨σ2, r1, r2, r3, r4, r5⟩ := ih (k + 1) (up2 s8 (o + 2) k 1000000000) (by omega) (plR_back t2 hnext.1) (fun j h => by
              rw [up2_ne (by omega), t3 j (by omega), hor j h]) (by
              rw [fl, if_neg hstt]
              exact t4.up (Or.inl rfl)) (((hfp.tr frs).tr t5).tr (Fp.up (Or.inl rfl)))
            exact ⟨σ2, r1, r2, r3, r4, fun Q P hP hQ => walk σ2 Q P hP (fun z => absurd hmb (b2_0 z)) (fun _ => ⟨s8, t1, r5 Q P hP hQ⟩)⟩
          · -- passed over
            have hpr := prune (LH := lbH (fil w k)) (LE := lbE (fil w k)) (by rw [hlb]; exact hmb) n (fil w k) (T + 3) (c1 ch dep k) (dep + 1) _ hok hws (by omega) (by omega) (by omega) (Int.le_refl _) (Int.le_refl _) hbs2
            obtain ⟨σ2, r1, r2, r3, r4, r5⟩ := ih (k + 1) (up2 (up2 (up2 s (o + 3) dep (k : Int)) (o + 2) k (stt w k + w 1 k)) (o + 2) k 1000000000) (by omega) (plR_back hps2 hnext.1) (fun j h => by
              rw [up2_ne (by omega), hor j h]) (by
              rw [fl, if_neg hstt]
              exact cBs.up (Or.inl rfl) hpr) ((hfp.tr frs).tr (Fp.up (Or.inl rfl)))
            exact ⟨σ2, r1, r2, r3, r4, fun Q P hP hQ => walk σ2 Q P hP (fun _ => r5 Q P hP hQ) (fun z => absurd (b2_f hmb) z)⟩
        · have hno : stt w k = -1 := if_neg (fun z => hnext z.2)
          obtain ⟨σ2, r1, r2, r3, r4, r5⟩ := ih (k + 1) s (by omega) hps hj (by
            rw [fl, if_pos hno]
            exact hbs) hfp
          refine ⟨σ2, r1, r2, r3, r4, fun Q P hP hQ => ?_⟩
          have h5 := r5 Q P hP hQ
          refine k_X3_extend_27 hP o _ _ _ _ _ hg ?_
          rw [hps.1.2.2.1]
          exact ⟨rO (by omega) (by omega), rO (by omega) (by omega), fun z => absurd z (by omega), fun _ => ⟨_, hnx, b2_iR _, fun z => absurd (b2_f hnext) z, fun _ => h5⟩⟩
    obtain ⟨σ2, r1, r2, r3, r4, r5⟩ := B (w 0 2).toNat 0 σ (by omega) hp (fun _ _ => rfl) hb Fp.rf
    refine ⟨σ2, ca_in cd_X3_extend bd_X3_extend rfl (by decide) (Nat.le_of_ble_eq_true rfl) (fun Q P hP hQ => ?_), r1, r2, r3, r4⟩
    refine k_X3_extend_0 hP o _ _ _ _ hg ?_
    rw [h1]
    exact ⟨rO (by omega) (by omega), rO (by omega) (by omega), fun z => absurd z (by omega), fun _ => ⟨rO (by omega) (by omega), fun _ => r5 Q P hP hQ, fun z => absurd (by omega) z⟩⟩
end P6
