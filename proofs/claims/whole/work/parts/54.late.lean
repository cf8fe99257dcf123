/-! How late a truck may come -/
section S4
variable {d : Nat} {g : pG} {σ σ2 : pM} {T : Int} {w w2 : Wl} {H : Hs} {s : Int} {B : Bk} {I : Ig}
theorem mxU_cut {f : Nat → Int} {m : Nat} : ∀ k, (∀ n, m < n → n ≤ m + k → ¬ f n = 1) → mxU f (m + k) = mxU f m
  | 0, _ => rfl
  | k + 1, h => by
    have e : mxU f (m + (k + 1)) = mxU f (m + k) := if_neg (h (m + k + 1) (by omega) (by omega))
    rw [e]
    exact mxU_cut k (fun n h1 h2 => h n h1 (by omega))
theorem c_mayBeLate {k : Nat} (hG : gAll g) (hc : CI σ w H s B I) (hw : wOK T w) (hs : wS w) (h200 : 200 ≤ T) (hT : T ≤ 88000) (hk : (k : Int) < w 0 7) : ∃ σ2, Ca (d + 16) yX5_mayBeLate [vR (some 1), vI (k : Int)] g σ [vI (mlt w k)] g σ2 ∧ CI σ2 w H s B I ∧ FrC σ σ2 := by
  have hnt := hw.nt
  have hk9 : k < 9 := by omega
  have htr := hw.tr hk9
  obtain ⟨s1, p1, p2, p3, p4⟩ := c_plan (d := d + 1) hG hc hw hs h200 (by omega)
  have f1 : FrC σ s1 := fun x hx => p4 x (by omega) (by omega)
  have e6 : s1 6 k = w 4 k := by rw [← p2.1]; exact (cv4 (σ := s1) (o := 2) hk9).symm
  cases hb : bst w with
  | none =>
    refine ⟨s1, ca_in cd_X5_mayBeLate bd_X5_mayBeLate rfl (by decide) (Nat.le_of_ble_eq_true rfl) (fun Q P hP hQ => ?_), p2, f1⟩
    have h0 := p3.none hb
    rw [mlt, hb] at hQ
    exact k_X5_mayBeLate_0 hP _ hG ⟨s1, p1, by rw [h0]; decide, fun z => absurd h0 z, fun _ => hQ⟩
  | some q =>
    have hq := p3.some hb
    have loop : ∀ (n : Nat) (t : pM), n ≤ 12 → (n = 0 ∨ w 4 k + (n : Int) ≤ 99) → CI t w H s B I → plK t 14 w → FrC σ t → ∃ σ2, CI σ2 w H s B I ∧ FrC σ σ2 ∧ ∀ (Q : pQ) (P : pP), Clo (pCall (d + 15)) yX5_mayBeLate cX5_mayBeLate (some .int) 5 0 0 Q P → Q [vI (mxU (mlF w k q.1) n)] g σ2 → P 35 [(0, vR (some 1)), (1, vI (k : Int)), (2, vR (some 14)), (4, vI (n : Int))] [] g t 0 0 := by
      intro n
      induction n with
      | zero =>
        intro t hn h99 ht hkk hf
        exact ⟨t, ht, hf, fun Q P hP hQ => k_X5_mayBeLate_35 hP _ _ hG ⟨by decide, fun _ => hQ, fun z => absurd (by decide) z⟩⟩
      | succ n ih =>
        intro t hn h99 ht hkk hf
        obtain ⟨t1, a1, a2, a3⟩ := c_copyFrom (d := d + 13) (σ := t) (o := 8) (a := 2) hG.W_8 hG.W_2 (by decide)
        rw [ht.1] at a2
        have hw1 : wOK T (cv t1 8) := by rw [a2]; exact hw
        have e87 : t1 8 7 = w 0 7 := by rw [← a2]; exact (cv0 (by decide)).symm
        obtain ⟨t2, c1', c2, c3⟩ := c_delay (d := d + 13) (σ := t1) (o := 8) (k := k) (n := ((n + 1 : Nat) : Int)) hG.W_8 hw1 (by rw [e87]; exact hk)
        rw [a2] at c2
        have cvt : cv t2 8 = dlU w k ((n + 1 : Nat) : Int) := c2
        have hwt : wOK T (dlU w k ((n + 1 : Nat) : Int)) := dly_ok hw hk9 (by omega)
        have hst := c_stock (d := d + 12) (σ := t2) (o := 8) (T := T) hG.W_8 (by rw [cvt]; exact hwt) (by omega)
        rw [cvt] at hst
        have eus : used (dlU w k ((n + 1 : Nat) : Int)) = used w := rfl
        have etm : dlU w k ((n + 1 : Nat) : Int) 0 3 = w 0 3 := rfl
        rw [eus, etm] at hst
        have hub := used_bd hw
        have hbb := bro_bd hwt (w 0 3)
        have hqt := hkk.some hb
        have e142 : t2 14 2 = q.1 := by rw [c3 14 (by decide), a3 14 (by decide)]; exact hqt.2.1
        have all2 : ∀ x, (x < 8 ∨ 13 < x) → t2 x = t x := fun x h1 => by rw [c3 x (by omega), a3 x (by omega)]
        obtain ⟨t3, b1, b2'⟩ := c_leastHarmIs (d := d + 1) (σ := t2) (o := 20) (a := 8) (T := T) (ceil := q.1) hG.P_20 hG.W_8 (by decide) (by rw [cvt]; exact hwt) (by rw [cvt]; exact dlU_S hs) (by omega) (by omega) hqt.2.2
        rw [cvt] at b1
        have all3 : ∀ x, (x < 8 ∨ 13 < x) → (x < 20 ∨ 25 < x) → t3 x = t x := fun x h1 h2 => by rw [b2' x (by omega), all2 x h1]
        have h01 := lh2_01 q.1 (bst (dlU w k ((n + 1 : Nat) : Int)))
        by_cases hstk : used w ≤ bro (dlU w k ((n + 1 : Nat) : Int)) (w 0 3)
        · have eF : mlF w k q.1 (n + 1) = lh2 q.1 (bst (dlU w k ((n + 1 : Nat) : Int))) := if_pos ⟨by omega, hstk⟩
          have ht3 : CI t3 w H s B I := ht.co (fun x hx => all3 x (by omega) (by omega))
          have hk3 : plK t3 14 w := hkk.co (fun x h1 h2 => all3 x (by omega) (by omega))
          have hf3 : FrC σ t3 := hf.tr (fun x hx => all3 x (by omega) (by omega))
          by_cases hy : lh2 q.1 (bst (dlU w k ((n + 1 : Nat) : Int))) = 1
          · refine ⟨t3, ht3, hf3, fun Q P hP hQ => ?_⟩
            have e : mxU (mlF w k q.1) (n + 1) = ((n + 1 : Nat) : Int) := if_pos (by rw [eF]; exact hy)
            rw [e] at hQ
            refine k_X5_mayBeLate_35 hP _ _ hG ⟨rO (by omega) (by omega), fun z => absurd z (by omega), fun _ => ⟨t1, a1, t2, c1', _, hst, rO (by omega) (by omega), fun z => absurd z (by omega), fun _ => ?_⟩⟩
            rw [e142]
            exact ⟨_, t3, b1, rO (by omega) (by omega), fun z => absurd z (by omega), fun _ => hQ⟩
          · obtain ⟨σ2, r1, r2, r3⟩ := ih t3 (by omega) (by omega) ht3 hk3 hf3
            refine ⟨σ2, r1, r2, fun Q P hP hQ => ?_⟩
            have e : mxU (mlF w k q.1) (n + 1) = mxU (mlF w k q.1) n := if_neg (by rw [eF]; exact hy)
            rw [e] at hQ
            have h35 := r3 Q P hP hQ
            refine k_X5_mayBeLate_35 hP _ _ hG ⟨rO (by omega) (by omega), fun z => absurd z (by omega), fun _ => ⟨t1, a1, t2, c1', _, hst, rO (by omega) (by omega), fun z => absurd z (by omega), fun _ => ?_⟩⟩
            rw [e142]
            refine ⟨_, t3, b1, rO (by omega) (by omega), fun _ => ?_, fun z => absurd (by omega) z⟩
            rw [show ((n + 1 : Nat) : Int) + (-1) = (n : Int) by omega]
            exact h35
        · have ht2 : CI t2 w H s B I := ht.co (fun x hx => all2 x (by omega))
          have hk2 : plK t2 14 w := hkk.co (fun x h1 h2 => all2 x (by omega))
          have hf2 : FrC σ t2 := hf.tr (fun x hx => all2 x (by omega))
          obtain ⟨σ2, r1, r2, r3⟩ := ih t2 (by omega) (by omega) ht2 hk2 hf2
          refine ⟨σ2, r1, r2, fun Q P hP hQ => ?_⟩
          have eF : mlF w k q.1 (n + 1) = 0 := if_neg (fun z => hstk z.2)
          have e : mxU (mlF w k q.1) (n + 1) = mxU (mlF w k q.1) n := if_neg (by rw [eF]; decide)
          rw [e] at hQ
          have h35 := r3 Q P hP hQ
          refine k_X5_mayBeLate_35 hP _ _ hG ⟨rO (by omega) (by omega), fun z => absurd z (by omega), fun _ => ⟨t1, a1, t2, c1', _, hst, rO (by omega) (by omega), fun _ => ?_, fun z => absurd (by omega) z⟩⟩
          rw [show ((n + 1 : Nat) : Int) + (-1) = (n : Int) by omega]
          exact h35
    -- as far as it may go
    have cut : mxU (mlF w k q.1) 12 = mxU (mlF w k q.1) (min 12 (99 - w 4 k)).toNat := by
      have h := mxU_cut (f := mlF w k q.1) (m := (min 12 (99 - w 4 k)).toNat) (12 - (min 12 (99 - w 4 k)).toNat) (fun n h1 h2 => by
        have eF : mlF w k q.1 n = 0 := if_neg (fun z => by omega)
        rw [eF]; decide)
      rw [← h]
      congr 1
      omega
    by_cases h0 : 0 ≤ min 12 (99 - w 4 k)
    · obtain ⟨σ2, r1, r2, r3⟩ := loop (min 12 (99 - w 4 k)).toNat s1 (by omega) (by omega) p2 p3 f1
      refine ⟨σ2, ca_in cd_X5_mayBeLate bd_X5_mayBeLate rfl (by decide) (Nat.le_of_ble_eq_true rfl) (fun Q P hP hQ => ?_), r1, r2⟩
      rw [mlt, hb] at hQ
      simp only [cut] at hQ
      have h35 := r3 Q P hP hQ
      refine k_X5_mayBeLate_0 hP _ hG ⟨s1, p1, by rw [hq.1]; decide, fun _ => ⟨⟨by omega, by omega⟩, ?_⟩, fun z => absurd (by rw [hq.1]; decide) z⟩
      rw [Int.toNat_natCast, e6]
      refine ⟨_, c_min (d := d + 14) (by decide) (rO (by omega) (by omega)), ?_⟩
      rw [Int.toNat_of_nonneg h0] at h35
      exact h35
    · refine ⟨s1, ca_in cd_X5_mayBeLate bd_X5_mayBeLate rfl (by decide) (Nat.le_of_ble_eq_true rfl) (fun Q P hP hQ => ?_), p2, f1⟩
      rw [mlt, hb] at hQ
      simp only [cut, show (min 12 (99 - w 4 k)).toNat = 0 by omega] at hQ
      refine k_X5_mayBeLate_0 hP _ hG ⟨s1, p1, by rw [hq.1]; decide, fun _ => ⟨⟨by omega, by omega⟩, ?_⟩, fun z => absurd (by rw [hq.1]; decide) z⟩
      rw [Int.toNat_natCast, e6]
      refine ⟨_, c_min (d := d + 14) (by decide) (rO (by omega) (by omega)), ?_⟩
      exact k_X5_mayBeLate_35 hP _ _ hG ⟨rO (by omega) (by omega), fun _ => hQ, fun z => absurd (by omega) z⟩
theorem c_mmayBeLate {k : Nat} (hG : gAll g) (hm : MI σ w H s B I) (hw : wOK T w) (hs : wS w) (h200 : 200 ≤ T) (hT : T ≤ 88000) (hk : (k : Int) < w 0 7) : ∃ σ2, Ca (d + 8) yX6_mayBeLate [vR (some 166), vI (k : Int)] g σ [vI (mlt w k)] g σ2 ∧ MI σ2 w H s B I ∧ FrM σ σ2 := by
  have hnt := hw.nt
  have hk9 : k < 9 := by omega
  have htr := hw.tr hk9
  have hw0 : wOK T (mv σ 0) := by rw [hm.1]; exact hw
  obtain ⟨s1, p1, p2, p3⟩ := c_finds (d := d) hG hw0 h200 (by omega)
  rw [hm.1] at p2
  have hub := un_bd hw
  have hr := p2.r (by omega)
  cases hb : bst w with
  | none =>
    refine ⟨s1, ca_in cd_X6_mayBeLate bd_X6_mayBeLate rfl (by decide) (Nat.le_of_ble_eq_true rfl) (fun Q P hP hQ => ?_), hm.fk p3, p3.frM⟩
    rw [mlt, hb] at hQ
    exact k_X6_mayBeLate_0 hP _ hG ⟨s1, p1, hr.1, fun z => absurd (hr.2.2.1.mpr hb) z, fun _ => hQ⟩
  | some q =>
    have hne : ¬ s1 166 8 = -1 := fun z => by
      have := hr.2.2.1.mp z
      rw [hb] at this
      exact nomatch this
    have e9 : s1 166 9 = q.1 := by rw [hr.2.2.2.1, hb]; rfl
    have hq9 : iR q.1 := by rw [← e9]; exact hr.2.1
    have loop : ∀ (m n : Nat) (t : pM), n + m = 12 → MI t w H s B I → FrM σ t → ∃ σ2, MI σ2 w H s B I ∧ FrM σ σ2 ∧ ∀ (Q : pQ) (P : pP), Clo (pCall (d + 7)) yX6_mayBeLate cX6_mayBeLate (some .int) 5 0 0 Q P → Q [vI (mxU (mlF w k q.1) 12)] g σ2 → P 24 [(0, vR (some 166)), (1, vI (k : Int)), (2, vI q.1), (3, vI (mxU (mlF w k q.1) n)), (4, vI ((n : Int) + 1))] [] g t 0 0 := by
      intro m
      induction m with
      | zero =>
        intro n t hn ht hf
        obtain rfl : n = 12 := by omega
        exact ⟨t, ht, hf, fun Q P hP hQ => k_X6_mayBeLate_24 hP _ _ _ _ hG ⟨by decide, fun _ => hQ, fun z => absurd (by decide) z⟩⟩
      | succ m ih =>
        intro n t hn ht hf
        obtain ⟨t1, a1, a2, a3, -⟩ := c_mcopy (d := d + 6) (σ := t) (p := 0) (q := 52) hG (by decide) (by decide) (by decide)
        rw [ht.1] at a2
        have e59 : t1 167 (59 + k) = w 4 k := by rw [← a2]; exact (m_tt (σ := t1) (r := 52) hk9).symm
        have e54 : (up2 t1 167 (59 + k) (w 4 k + ((n : Int) + 1))) 167 54 = w 0 3 := by
          have : (up2 t1 167 (59 + k) (w 4 k + ((n : Int) + 1))) 167 54 = t1 167 54 := by
            have : ¬ 54 = 59 + k := by omega
            simp [up2, this]
          rw [this, ← a2]
          exact (m_tm (σ := t1) (r := 52)).symm
        have e5 : (up2 t1 167 (59 + k) (w 4 k + ((n : Int) + 1))) 167 (59 + k) = w 4 k + ((n : Int) + 1) := by simp [up2]
        have mvt : mv (up2 t1 167 (59 + k) (w 4 k + ((n : Int) + 1))) 52 = dlU w k ((n + 1 : Nat) : Int) := by
          have u := mv_up (σ := t1) (r := 52) (f := 4) (j := k) (v := w 4 k + ((n : Int) + 1)) (by decide) (by decide) hk9
          rw [a2] at u
          exact u
        have hfk1 : Fk t (up2 t1 167 (59 + k) (w 4 k + ((n : Int) + 1))) := (Fk.m a3).tr (Fk.up (a := 167) (i := 59 + k) (by omega))
        have start : ∀ (Q : pQ) (P : pP), Clo (pCall (d + 7)) yX6_mayBeLate cX6_mayBeLate (some .int) 5 0 0 Q P → (99 < w 4 k + ((n : Int) + 1) → P 24 [(0, vR (some 166)), (1, vI (k : Int)), (2, vI q.1), (3, vI (mxU (mlF w k q.1) n)), (4, vI ((n : Int) + 1 + 1))] [] g (up2 t1 167 (59 + k) (w 4 k + ((n : Int) + 1))) 0 0) → (¬ (99 < w 4 k + ((n : Int) + 1)) → ∃ (v2 : Int), Ca (d + 7) yX6_brought [vR (some 166), vI 52, vI (w 0 3)] g (up2 t1 167 (59 + k) (w 4 k + ((n : Int) + 1))) [vI v2] g (up2 t1 167 (59 + k) (w 4 k + ((n : Int) + 1))) ∧ ∃ (v3 : Int), Ca (d + 7) yX6_used [vR (some 166), vI 52] g (up2 t1 167 (59 + k) (w 4 k + ((n : Int) + 1))) [vI v3] g (up2 t1 167 (59 + k) (w 4 k + ((n : Int) + 1))) ∧ iR v2 ∧ iR v3 ∧ (v2 < v3 → P 24 [(0, vR (some 166)), (1, vI (k : Int)), (2, vI q.1), (3, vI (mxU (mlF w k q.1) n)), (4, vI ((n : Int) + 1 + 1))] [] g (up2 t1 167 (59 + k) (w 4 k + ((n : Int) + 1))) 0 0) ∧ (¬ (v2 < v3) → ∃ (s4 : pM), Ca (d + 7) yX6_seeks [vR (some 166)] g (up2 t1 167 (59 + k) (w 4 k + ((n : Int) + 1))) [] g s4 ∧ iR (s4 166 8) ∧ ((s4 166 8) = ((-1)) → P 24 [(0, vR (some 166)), (1, vI (k : Int)), (2, vI q.1), (3, vI (mxU (mlF w k q.1) n)), (4, vI ((n : Int) + 1 + 1))] [] g s4 0 0) ∧ (¬ ((s4 166 8) = ((-1))) → iR (s4 166 9) ∧ iR q.1 ∧ (¬ (s4 166 9) = q.1 → P 24 [(0, vR (some 166)), (1, vI (k : Int)), (2, vI q.1), (3, vI (mxU (mlF w k q.1) n)), (4, vI ((n : Int) + 1 + 1))] [] g s4 0 0) ∧ (¬ (¬ (s4 166 9) = q.1) → P 24 [(0, vR (some 166)), (1, vI (k : Int)), (2, vI q.1), (3, vI ((n : Int) + 1)), (4, vI ((n : Int) + 1 + 1))] [] g s4 0 0)))) → P 24 [(0, vR (some 166)), (1, vI (k : Int)), (2, vI q.1), (3, vI (mxU (mlF w k q.1) n)), (4, vI ((n : Int) + 1))] [] g t 0 0 := by
          intro Q P hP k1 k2
          refine k_X6_mayBeLate_24 hP _ _ _ _ hG ⟨rO (by omega) (by omega), fun z => absurd z (by omega), fun _ => ⟨t1, a1, ?_⟩⟩
          rw [show ((59 : Int) + (k : Int)).toNat = 59 + k by omega, e59, e5, e54]
          exact ⟨⟨by omega, by omega⟩, ⟨by omega, by omega⟩, ⟨by omega, by omega⟩, rO (by omega) (by omega), k1, k2⟩
        by_cases h99 : 99 < w 4 k + ((n : Int) + 1)
        · obtain ⟨σ2, r1, r2, r3⟩ := ih (n + 1) _ (by omega) (ht.fk hfk1) (hf.tr hfk1.frM)
          refine ⟨σ2, r1, r2, fun Q P hP hQ => ?_⟩
          have h24 := r3 Q P hP hQ
          have eF : mlF w k q.1 (n + 1) = 0 := if_neg (fun z => by have := z.1; omega)
          have e : mxU (mlF w k q.1) (n + 1) = mxU (mlF w k q.1) n := if_neg (by rw [eF]; decide)
          rw [e, show ((n + 1 : Nat) : Int) + 1 = (n : Int) + 1 + 1 by omega] at h24
          exact start Q P hP (fun _ => h24) (fun z => absurd h99 z)
        · have hwt : wOK T (dlU w k ((n + 1 : Nat) : Int)) := dly_ok hw hk9 (by omega)
          have hbr := c_mbro (d := d + 6) (σ := up2 t1 167 (59 + k) (w 4 k + ((n : Int) + 1))) (r := 52) (T := T) (t := w 0 3) hG (by rw [mvt]; exact hwt) (by decide) (rO (by have := hw.tm; omega) (by have := hw.tm; omega))
          have hus := c_mused (d := d + 5) (σ := up2 t1 167 (59 + k) (w 4 k + ((n : Int) + 1))) (r := 52) (T := T) hG (by rw [mvt]; exact hwt) (by omega) (by decide)
          rw [mvt] at hbr hus
          have eus : used (dlU w k ((n + 1 : Nat) : Int)) = used w := rfl
          rw [eus] at hus
          have hub2 := used_bd hw
          have hbb := bro_bd hwt (w 0 3)
          by_cases hstk : used w ≤ bro (dlU w k ((n + 1 : Nat) : Int)) (w 0 3)
          · have eF : mlF w k q.1 (n + 1) = lh2 q.1 (bst (dlU w k ((n + 1 : Nat) : Int))) := if_pos ⟨by omega, hstk⟩
            have hubt := un_bd hwt
            obtain ⟨t2, b1, b2', b3, b4⟩ := c_seeks (d := d + 1) (T := T) (N := (un (dlU w k ((n + 1 : Nat) : Int))).toNat) hG mvt hwt (by omega) (by omega) (by omega) (fun _ => 0)
            have hr2 := b3.r (by omega)
            have hfk : Fk t t2 := hfk1.tr b4
            obtain ⟨σ2, r1, r2, r3⟩ := ih (n + 1) t2 (by omega) (ht.fk hfk) (hf.tr hfk.frM)
            refine ⟨σ2, r1, r2, fun Q P hP hQ => ?_⟩
            have h24 := r3 Q P hP hQ
            rw [show ((n + 1 : Nat) : Int) + 1 = (n : Int) + 1 + 1 by omega] at h24
            have hbt : exG (un (dlU w k ((n + 1 : Nat) : Int))).toNat (dlU w k ((n + 1 : Nat) : Int)) (fun _ => 0) 0 none = bst (dlU w k ((n + 1 : Nat) : Int)) := rfl
            rw [hbt] at hr2
            refine start Q P hP (fun z => absurd z h99) (fun _ => ⟨_, hbr, _, hus, rO (by omega) (by omega), rO (by omega) (by omega), fun z => absurd z (by omega), fun _ => ⟨t2, b1, hr2.1, fun z => ?_, fun z => ⟨hr2.2.1, hq9, fun z2 => ?_, fun z2 => ?_⟩⟩⟩)
            · have e : mxU (mlF w k q.1) (n + 1) = mxU (mlF w k q.1) n := if_neg (by rw [eF]; exact fun y => (lh2_iff.mp y).1 (hr2.2.2.1.mp z))
              rw [e] at h24; exact h24
            · have e : mxU (mlF w k q.1) (n + 1) = mxU (mlF w k q.1) n := if_neg (by rw [eF]; exact fun y => z2 (by rw [hr2.2.2.2.1]; exact (lh2_iff.mp y).2))
              rw [e] at h24; exact h24
            · have e : mxU (mlF w k q.1) (n + 1) = ((n + 1 : Nat) : Int) := if_pos (by rw [eF]; exact lh2_iff.mpr ⟨fun y => z (hr2.2.2.1.mpr y), by rw [← hr2.2.2.2.1]; exact Decidable.not_not.mp z2⟩)
              rw [e] at h24; exact h24
          · obtain ⟨σ2, r1, r2, r3⟩ := ih (n + 1) _ (by omega) (ht.fk hfk1) (hf.tr hfk1.frM)
            refine ⟨σ2, r1, r2, fun Q P hP hQ => ?_⟩
            have h24 := r3 Q P hP hQ
            have eF : mlF w k q.1 (n + 1) = 0 := if_neg (fun z => hstk z.2)
            have e : mxU (mlF w k q.1) (n + 1) = mxU (mlF w k q.1) n := if_neg (by rw [eF]; decide)
            rw [e, show ((n + 1 : Nat) : Int) + 1 = (n : Int) + 1 + 1 by omega] at h24
            exact start Q P hP (fun z => absurd z h99) (fun _ => ⟨_, hbr, _, hus, rO (by omega) (by omega), rO (by omega) (by omega), fun _ => h24, fun z => absurd (by omega) z⟩)
    obtain ⟨σ2, r1, r2, r3⟩ := loop 12 0 s1 rfl (hm.fk p3) p3.frM
    refine ⟨σ2, ca_in cd_X6_mayBeLate bd_X6_mayBeLate rfl (by decide) (Nat.le_of_ble_eq_true rfl) (fun Q P hP hQ => ?_), r1, r2⟩
    rw [mlt, hb] at hQ
    have h24 := r3 Q P hP hQ
    refine k_X6_mayBeLate_0 hP _ hG ⟨s1, p1, hr.1, fun _ => ?_, fun z => absurd hne z⟩
    rw [e9]
    exact h24
end S4
