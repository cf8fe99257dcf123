/-! The class's search, its call -/
def aK (w : Wl) (n : Int) : Nat → Int
  | 0 => 1000000000
  | k + 1 => if n ≤ bro w (w 4 k) then min (aK w n k) (w 4 k) else aK w n k
section P8
variable {d : Nat} {g : pG} {σ : pM} {o a : Nat} {T : Int}
theorem aK_bAt {w : Wl} (hw : wOK T w) (n : Int) : ∀ k, k ≤ 9 → aK w n k = if bAt w n k = -1 then 1000000000 else bAt w n k
  | 0, _ => rfl
  | k + 1, h => by
    have ih := aK_bAt hw n k (by omega)
    have ht := hw.tr (k := k) (by omega)
    have hb := bAt_bd hw n k (by omega)
    rw [aK, ih]
    by_cases h1 : n ≤ bro w (w 4 k)
    · rw [if_pos h1]
      by_cases h2 : bAt w n k = -1
      · have eb : bAt w n (k + 1) = w 4 k := if_pos ⟨Or.inl h2, h1⟩
        rw [if_pos h2, eb, if_neg (by omega)]
        omega
      · rw [if_neg h2]
        by_cases h3 : w 4 k < bAt w n k
        · have eb : bAt w n (k + 1) = w 4 k := if_pos ⟨Or.inr h3, h1⟩
          rw [eb, if_neg (by omega)]
          omega
        · have eb : bAt w n (k + 1) = bAt w n k := if_neg (fun z => by omega)
          rw [eb, if_neg h2]
          omega
    · have eb : bAt w n (k + 1) = bAt w n k := if_neg (fun z => h1 z.2)
      rw [if_neg h1, eb]
def mN (s : pM) (r i : Nat) (v : Int) : pM := fun x j => if x = r then (if j < i then min (s r j) v else s x j) else s x j
theorem mN_s (s : pM) (r i : Nat) (v : Int) : up2 (mN s r i v) r i (min ((mN s r i v) r i) v) = mN s r (i + 1) v := by
  have e : (mN s r i v) r i = s r i := by simp [mN]
  rw [e]
  funext x j
  unfold up2 mN
  by_cases hx : x = r
  · subst hx
    rw [if_pos rfl, if_pos rfl, if_pos rfl]
    by_cases hj : j = i
    · subst hj
      rw [if_pos rfl, if_pos (by omega)]
    · rw [if_neg hj]
      by_cases h2 : j < i
      · rw [if_pos h2, if_pos (by omega)]
      · rw [if_neg h2, if_neg (by omega)]
  · simp [hx]
theorem mN_0 (s : pM) (r : Nat) (v : Int) : mN s r 0 v = s := by funext x j; simp [mN]
theorem c_readArr (hg : gPl g o) (ha : gWl g a) (hd : a + 5 < o ∨ o + 5 < a) (hw : wOK T (cv σ a)) : ∃ σ2, Ca (d + 2) yX3_readArrivals [vR (some o), vR (some a)] g σ [] g σ2 ∧ (∀ i : Nat, i < 28 → σ2 (o + 5) i = arr (cv σ a) (i : Int)) ∧ ∀ x, x ≠ o + 5 → σ2 x = σ x := by
  have hr := hw.raw
  have e07 : cv σ a 0 7 = σ a 7 := cv0 (by decide)
  have loop : ∀ (m k : Nat) (s : pM), (k : Int) + m = σ a 7 → (∀ i : Nat, i < 28 → s (o + 5) i = aK (cv σ a) (i : Int) k) → (∀ x, x ≠ o + 5 → s x = σ x) → ∃ σ2, (∀ i : Nat, i < 28 → σ2 (o + 5) i = aK (cv σ a) (i : Int) (σ a 7).toNat) ∧ (∀ x, x ≠ o + 5 → σ2 x = σ x) ∧ ∀ (Q : pQ) (P : pP), Clo (pCall (d + 1)) yX3_readArrivals cX3_readArrivals none 6 0 0 Q P → Q [] g σ2 → P 11 [(0, vR (some o)), (1, vR (some a)), (2, vI (k : Int))] [] g s 0 0 := by
    intro m
    induction m with
    | zero =>
      intro k s hk h1 h2
      refine ⟨s, by rw [show (σ a 7).toNat = k by omega]; exact h1, h2, fun Q P hP hQ => ?_⟩
      refine k_X3_readArrivals_11 hP o a _ hg ha ?_
      rw [h2 a (by omega)]
      exact ⟨rO (by omega) (by omega), rO (by omega) (by omega), fun _ => hQ, fun z => absurd (by omega) z⟩
    | succ m ih =>
      intro k s hk h1 h2
      have hk9 : k < 9 := by omega
      have ht := hw.tr hk9
      have hcs : cv s a = cv σ a := cv_ne (fun f hf => h2 (a + f) (by omega))
      have e4 : s (a + 4) k = cv σ a 4 k := by rw [h2 (a + 4) (by omega), cv4 hk9]
      have hbb := bro_bd hw (cv σ a 4 k)
      have hbr := c_bro (d := d) (σ := s) (o := a) (T := T) (t := cv σ a 4 k) ha (by rw [hcs]; exact hw) (rO (by omega) (by omega))
      rw [hcs] at hbr
      -- as far as this
      let E : Nat := min ((bro (cv σ a) (cv σ a 4 k)).toNat + 1) 28
      obtain ⟨σ2, r1, r2, r3⟩ := ih (k + 1) (mN s (o + 5) E (cv σ a 4 k)) (by omega) (fun i hi => by
        rw [aK, ← h1 i hi]
        show (if o + 5 = o + 5 then (if i < E then min (s (o + 5) i) (cv σ a 4 k) else s (o + 5) i) else _) = _
        rw [if_pos rfl]
        have : i < E ↔ (i : Int) ≤ bro (cv σ a) (cv σ a 4 k) := by
          show i < min ((bro (cv σ a) (cv σ a 4 k)).toNat + 1) 28 ↔ _
          omega
        simp only [this]) (fun x hx => by
        rw [← h2 x hx]
        funext j
        simp [mN, hx])
      refine ⟨σ2, r1, r2, fun Q P hP hQ => ?_⟩
      have h11 := r3 Q P hP hQ
      have inner : ∀ (m2 i : Nat), i + m2 = E → P 36 [(0, vR (some o)), (1, vR (some a)), (2, vI (k : Int)), (3, vI (cv σ a 4 k)), (4, vI (bro (cv σ a) (cv σ a 4 k))), (5, vI (i : Int))] [] g (mN s (o + 5) i (cv σ a 4 k)) 0 0 := by
        have hE : E = min ((bro (cv σ a) (cv σ a 4 k)).toNat + 1) 28 := rfl
        intro m2
        induction m2 with
        | zero =>
          intro i hi
          obtain rfl : i = E := by omega
          refine k_X3_readArrivals_36 hP o a _ _ _ _ hg ha ⟨rO (by omega) (by omega), rO (by omega) (by omega), fun _ => h11, fun z => ⟨rO (by omega) (by omega), fun _ => h11, fun z2 => absurd (by omega) z2⟩⟩
        | succ m2 ih2 =>
          intro i hi
          have hj := ih2 (i + 1) (by omega)
          have e5 : (mN s (o + 5) i (cv σ a 4 k)) (o + 5) i = s (o + 5) i := by simp [mN]
          have hak := aK_bAt hw (i : Int) k (by omega)
          have hbd := bAt_bd hw (i : Int) k (by omega)
          have hsb : -1 ≤ s (o + 5) i ∧ s (o + 5) i ≤ 1000000000 := by
            rw [h1 i (by omega), hak]
            split <;> omega
          refine k_X3_readArrivals_36 hP o a _ _ _ _ hg ha ⟨rO (by omega) (by omega), rO (by omega) (by omega), fun z => absurd z (by omega), fun _ => ⟨rO (by omega) (by omega), fun z => absurd z (by omega), fun _ => ⟨⟨by omega, by omega⟩, _, c_min (d := d) ?_ (rO (by omega) (by omega)), ⟨by omega, by omega⟩, ?_⟩⟩⟩
          · rw [Int.toNat_natCast, e5]; exact rO (by omega) (by omega)
          · rw [Int.toNat_natCast, mN_s]
            exact hj
      have h36 := inner E 0 (by omega)
      rw [mN_0] at h36
      refine k_X3_readArrivals_11 hP o a _ hg ha ?_
      rw [h2 a (by omega), Int.toNat_natCast, e4]
      exact ⟨rO (by omega) (by omega), rO (by omega) (by omega), fun z => absurd z (by omega), fun _ => ⟨⟨by omega, by omega⟩, _, hbr, h36⟩⟩
  obtain ⟨σ2, r1, r2, r3⟩ := loop (σ a 7).toNat 0 (fR σ (o + 5) 28 1000000000) (by omega) (fun i hi => by
    show (if o + 5 = o + 5 then (if i < 28 then (1000000000 : Int) else _) else _) = _
    rw [if_pos rfl, if_pos hi]
    rfl) (fun x hx => by funext j; simp [fR, hx])
  refine ⟨σ2, ca_in cd_X3_readArrivals bd_X3_readArrivals rfl (by decide) (Nat.le_of_ble_eq_true rfl) (fun Q P hP hQ => k_X3_readArrivals_0 hP o a hg ha ⟨_, c_fillRow (d := d) hg.a5 (by decide), r3 Q P hP hQ⟩), fun i hi => ?_, r2⟩
  rw [r1 i hi, aK_bAt hw _ _ (by omega), arr, e07]
  have : ¬ (28 : Int) ≤ (i : Int) := by omega
  simp only [this, false_or]
theorem c_hcvd {w : Wl} (hg : gPl g o) (hp : plR σ o w) (hw : wOK T w) (hT : T ≤ 1000000) : Ca (d + 2) yX3_harmCovered [vR (some o)] g σ [vI (hcv w)] g σ := by
  refine ca_in cd_X3_harmCovered bd_X3_harmCovered rfl (by decide) (Nat.le_of_ble_eq_true rfl) (fun Q P hP hQ => ?_)
  have hcl := hw.cells
  refine k_X3_harmCovered_0 hP o hg ?_
  have loop : ∀ (m n : Nat), (n : Int) + m = w 0 2 → P 4 [(0, vR (some o)), (1, vI (su (fun c => if w 2 c = -1 then 0 else hC w c (w 3 c - w 1 c)) n)), (2, vI (n : Int))] [] g σ 0 0 := by
    intro m
    induction m with
    | zero =>
      intro n hn
      refine k_X3_harmCovered_4 hP o _ _ hg ?_
      rw [hp.1.2.2.1]
      refine ⟨rO (by omega) (by omega), rO (by omega) (by omega), fun _ => ?_, fun z => absurd (by omega) z⟩
      rw [show n = (w 0 2).toNat by omega]
      exact hQ
    | succ m ih =>
      intro n hn
      have hi := ih (n + 1) (by omega)
      rw [su] at hi
      have hr := hp.2.1 n (by omega)
      have hdb := dn_bd hw hT (show n < 9 by omega)
      have hnd := hw.nd (k := n) (by omega)
      have hbd := hw.bd (c := n) (by omega)
      have htm := hw.tm
      refine k_X3_harmCovered_4 hP o _ _ hg ?_
      rw [hp.1.2.2.1, Int.toNat_natCast, hr.1, hr.2]
      refine ⟨rO (by omega) (by omega), rO (by omega) (by omega), fun z => absurd z (by omega), fun _ => ⟨⟨by omega, by omega⟩, rO (by omega) (by omega), fun z => ?_, fun z => ⟨⟨by omega, by omega⟩, ⟨by omega, by omega⟩, ?_⟩⟩⟩
      · rw [if_pos (by omega), Int.add_zero] at hi
        exact hi
      · have hne : ¬ w 2 n = -1 := by omega
        have ed : dn w n = w 3 n := if_neg hne
        rw [if_neg hne] at hi
        rw [ed]
        exact ⟨_, c_hC (d := d) hg hp hw hT (by omega) ⟨by omega, by omega⟩, hi⟩
  exact loop (w 0 2).toNat 0 (by omega)
theorem c_search {al ceil : Int} (hg : gPl g o) (ha : gWl g a) (hd : a + 5 < o ∨ o + 5 < a) (hw : wOK T (cv σ a)) (hs : wS (cv σ a)) (h200 : 200 ≤ T) (hT : T ≤ 89000) (hal : (al = 0 ∧ ceil = 1000000000) ∨ (al = 1 ∧ 0 ≤ ceil ∧ ceil ≤ 1000)) : ∃ σ2, Ca (d + 13) yX3_search [vR (some o), vR (some a), vI ceil, vI al] g σ [] g σ2 ∧ cBs σ2 o ceil (un (cv σ a)).toNat (bst (cv σ a)) ∧ σ2 o 1 = un (cv σ a) ∧ σ2 o 12 = al ∧ Fr o σ σ2 := by
  obtain ⟨s1, p1, p2, p3⟩ := c_readWall (d := d + 11) (σ := σ) hg ha hd
  have c1' : cv s1 a = cv σ a := cv_ne (fun f hf => p3 (a + f) (by omega))
  have a1 : s1 a = σ a := p3 a (by omega)
  obtain ⟨s2, q1, q2⟩ := c_readCells (d := d + 10) (σ := s1) (T := T) hg ha hd (by rw [c1']; exact hw) (by omega) (by rw [a1]; exact p2.1) (by rw [a1]; exact p2.2.2.1)
  rw [c1'] at q2
  obtain ⟨⟨q21, q210, q211⟩, q2r, q2x, q2o⟩ := q2
  have c2' : cv s2 a = cv σ a := by
    rw [← c1']
    exact cv_ne (fun f hf => q2x (a + f) (by omega) (by omega) (by omega))
  obtain ⟨s3, r1, r2, r3⟩ := c_readArr (d := d + 10) (σ := s2) (T := T) hg ha hd (by rw [c2']; exact hw)
  rw [c2'] at r2
  have c3' : cv s3 a = cv σ a := by
    rw [← c2']
    exact cv_ne (fun f hf => r3 (a + f) (by omega))
  have hub := un_bd hw
  let s4 : pM := up2 (up2 (up2 (up2 s3 o 0 0) o 2 ceil) o 3 1000000000) o 12 al
  have o4 : ∀ i, i ≠ 0 → i ≠ 2 → i ≠ 3 → i ≠ 12 → s4 o i = s2 o i := fun i h0 h2 h3 h12 => by
    rw [← r3 o (by omega)]
    show (up2 (up2 (up2 (up2 s3 o 0 0) o 2 ceil) o 3 1000000000) o 12 al) o i = _
    simp [up2, h0, h2, h3, h12]
  have x4 : ∀ x, x ≠ o → s4 x = s3 x := fun x hx => by
    show (up2 (up2 (up2 (up2 s3 o 0 0) o 2 ceil) o 3 1000000000) o 12 al) x = _
    rw [up2_ne hx, up2_ne hx, up2_ne hx, up2_ne hx]
  have e0 : s4 o 0 = 0 := by show (up2 (up2 (up2 (up2 s3 o 0 0) o 2 ceil) o 3 1000000000) o 12 al) o 0 = _; simp [up2]
  have e2 : s4 o 2 = ceil := by show (up2 (up2 (up2 (up2 s3 o 0 0) o 2 ceil) o 3 1000000000) o 12 al) o 2 = _; simp [up2]
  have e3 : s4 o 3 = 1000000000 := by show (up2 (up2 (up2 (up2 s3 o 0 0) o 2 ceil) o 3 1000000000) o 12 al) o 3 = _; simp [up2]
  have e12 : s4 o 12 = al := by show (up2 (up2 (up2 (up2 s3 o 0 0) o 2 ceil) o 3 1000000000) o 12 al) o 12 = _; simp [up2]
  have e1 : s4 o 1 = un (cv σ a) := by rw [o4 1 (by decide) (by decide) (by decide) (by decide), q21]; rfl
  have hp4 : plR s4 o (cv σ a) := by
    have f : ∀ i, i ≠ 0 → i ≠ 2 → i ≠ 3 → i ≠ 12 → i ≠ 1 → i ≠ 10 → i ≠ 11 → s4 o i = s1 o i := fun i h0 h2 h3 h12 h1 h10 h11 => by rw [o4 i h0 h2 h3 h12, q2o i h1 h10 h11]
    unfold plR
    rw [f 4 (by decide) (by decide) (by decide) (by decide) (by decide) (by decide) (by decide), f 5 (by decide) (by decide) (by decide) (by decide) (by decide) (by decide) (by decide), f 6 (by decide) (by decide) (by decide) (by decide) (by decide) (by decide) (by decide), f 7 (by decide) (by decide) (by decide) (by decide) (by decide) (by decide) (by decide), f 8 (by decide) (by decide) (by decide) (by decide) (by decide) (by decide) (by decide), f 9 (by decide) (by decide) (by decide) (by decide) (by decide) (by decide) (by decide), o4 10 (by decide) (by decide) (by decide) (by decide), o4 11 (by decide) (by decide) (by decide) (by decide), p2.1, p2.2.1, p2.2.2.1, p2.2.2.2.1, p2.2.2.2.2.1, p2.2.2.2.2.2, q210, q211, x4 (o + 1) (by omega), x4 (o + 2) (by omega), x4 (o + 5) (by omega), r3 (o + 1) (by omega), r3 (o + 2) (by omega), cv0 (show 0 < 8 by decide), cv0 (show 1 < 8 by decide), cv0 (show 4 < 8 by decide), cv0 (show 5 < 8 by decide), cv0 (show 6 < 8 by decide)]
    refine ⟨⟨rfl, rfl, (cv0 (by decide)).symm, rfl, rfl, rfl, rfl, rfl⟩, fun c hc => q2r c (by omega), r2⟩
  have hb4 : cBs s4 o ceil (un (cv σ a)).toNat none := by
    show cB _ _ _ _ _ _ _ _
    rw [e0, e2, e3, e12]
    rcases hal with ⟨h1, h2⟩ | ⟨h1, h2⟩
    · exact Or.inl ⟨h1, rfl, h2, rfl⟩
    · exact Or.inr ⟨h1, h2, Or.inl ⟨Or.inl rfl, rfl, rfl, rfl⟩⟩
  have fr4 : Fr o σ s4 := fun x hx => by
    rw [x4 x (by omega), r3 x (by omega), q2x x (by omega) (by omega) (by omega), p3 x hx]
  have c4' : cv s4 a = cv σ a := cv_ne (fun f hf => fr4 (a + f) (by omega))
  have a4 : s4 a 3 = cv σ a 0 3 := by rw [fr4 a (by omega), cv0 (by decide)]
  have hus := c_used (d := d + 10) (σ := s4) (o := a) (T := T) ha (by rw [c4']; exact hw) (by omega)
  rw [c4'] at hus
  have hhc := c_hcvd (d := d + 10) hg hp4 hw (by omega)
  have hal2 : al = 0 ∨ al = 1 := by omega
  have harr := arr_bd hw (allN (cv σ a))
  have hall := allN_bd hw
  have e10 : s4 o 10 = allN (cv σ a) := hp4.1.2.2.2.2.2.2.1
  have go : ((un (cv σ a)).toNat = 0 ∨ arr (cv σ a) (allN (cv σ a)) ≤ 200) → ∃ σ2, Ca (d + 12) yX3_extend [vR (some o), vI 0, vI (cv σ a 0 3), vI (hcv (cv σ a)), vI (used (cv σ a))] g s4 [] g σ2 ∧ cBs σ2 o ceil (un (cv σ a)).toNat (bst (cv σ a)) ∧ Fp o s4 σ2 := by
    intro hA
    obtain ⟨σ2, t1, t2, t3, t4, t5⟩ := c_extend (d := d + (9 - (un (cv σ a)).toNat)) (ceil := ceil) (N := (un (cv σ a)).toNat) hg (by omega) (un (cv σ a)).toNat (cv σ a) 0 (fun _ => 0) none T s4 (by omega) hw hs h200 (by omega) (by omega) hA hp4 (by rw [e1]; omega) (fun j h => by omega) hb4
    rw [show d + (9 - (un (cv σ a)).toNat) + (un (cv σ a)).toNat + 3 = d + 12 by omega] at t1
    exact ⟨σ2, t1, t4, t5⟩
  have fin : ∀ σ2, Fp o s4 σ2 → σ2 o 1 = un (cv σ a) ∧ σ2 o 12 = al ∧ Fr o σ σ2 := fun σ2 t5 => ⟨by rw [t5.2 1 (by decide) (by decide) (by decide), e1], by rw [t5.2 12 (by decide) (by decide) (by decide), e12], fun x hx => by rw [t5.1 x (by omega) (by omega) (by omega) (by omega), fr4 x hx]⟩
  by_cases hu0 : un (cv σ a) = 0
  · obtain ⟨σ2, t1, t2, t3⟩ := go (Or.inl (by omega))
    refine ⟨σ2, ca_in cd_X3_search bd_X3_search rfl (by decide) (Nat.le_of_ble_eq_true rfl) (fun Q P hP hQ => ?_), t2, fin σ2 t3⟩
    refine k_X3_search_0 hP o a _ _ hg ha ⟨s1, p1, s2, q1, s3, r1, hal2, ?_, fun _ => ⟨_, hhc, _, hus, σ2, ?_, hQ⟩, fun z => absurd (e1.trans hu0) z⟩
    · show iR (s4 o 1)
      rw [e1]; exact rO (by omega) (by omega)
    · show Ca _ _ [_, _, vI (s4 a 3), _, _] _ s4 _ _ _
      rw [a4]; exact t1
  · by_cases hA : arr (cv σ a) (allN (cv σ a)) = 1000000000
    · have hnone : bst (cv σ a) = none := by
        unfold bst
        obtain ⟨n, hn⟩ : ∃ n : Nat, (un (cv σ a)).toNat = n + 1 := ⟨(un (cv σ a)).toNat - 1, by omega⟩
        rw [hn]
        refine exG_none (fun _ => 0) n (cv σ a) T _ _ _ hw h200 (by omega) ?_
        unfold arr at hA
        split at hA
        · rename_i z
          rcases z with z | z
          · omega
          · exact z
        · have := bAt_bd hw (allN (cv σ a)) (cv σ a 0 7).toNat (by have := hw.nt; omega)
          omega
      refine ⟨s4, ca_in cd_X3_search bd_X3_search rfl (by decide) (Nat.le_of_ble_eq_true rfl) (fun Q P hP hQ => ?_), by rw [hnone]; exact hb4, fin s4 Fp.rf⟩
      refine k_X3_search_0 hP o a _ _ hg ha ⟨s1, p1, s2, q1, s3, r1, hal2, ?_, fun z => absurd (by rw [← z]; exact e1.symm) hu0, fun _ => ⟨_, ?_, ?_, fun _ => hQ, fun z => absurd hA z⟩⟩
      · show iR (s4 o 1)
        rw [e1]; exact rO (by omega) (by omega)
      · show Ca _ _ [_, vI (s4 o 10)] _ s4 _ _ _
        rw [e10]
        exact c_arr (d := d + 11) hg hp4 hall.1 (rO (by omega) (by omega))
      · exact rO (by omega) (by omega)
    · obtain ⟨σ2, t1, t2, t3⟩ := go (Or.inr (by omega))
      refine ⟨σ2, ca_in cd_X3_search bd_X3_search rfl (by decide) (Nat.le_of_ble_eq_true rfl) (fun Q P hP hQ => ?_), t2, fin σ2 t3⟩
      refine k_X3_search_0 hP o a _ _ hg ha ⟨s1, p1, s2, q1, s3, r1, hal2, ?_, fun z => absurd (by rw [← z]; exact e1.symm) hu0, fun _ => ⟨arr (cv σ a) (allN (cv σ a)), ?_, ?_, fun z => absurd z hA, fun _ => ⟨_, hhc, _, hus, σ2, ?_, hQ⟩⟩⟩
      · show iR (s4 o 1)
        rw [e1]; exact rO (by omega) (by omega)
      · show Ca _ _ [_, vI (s4 o 10)] _ s4 _ _ _
        rw [e10]
        exact c_arr (d := d + 11) hg hp4 hall.1 (rO (by omega) (by omega))
      · exact rO (by omega) (by omega)
      · show Ca _ _ [_, _, vI (s4 a 3), _, _] _ s4 _ _ _
        rw [a4]; exact t1
/-- what is told of the best -/
def bH : Bs → Int
  | none => -1
  | some q => q.1
def bE : Bs → Int
  | none => -1
  | some q => q.2.1
def bC (N : Int) (b : Bs) (i : Int) : Int := match b with
  | none => -1
  | some q => if 0 ≤ i ∧ i < N then q.2.2 i.toNat else -1
def lhi (ceil : Int) : Bs → Prop
  | none => False
  | some q => q.1 = ceil
def lh2 (ceil : Int) (b : Bs) : Int := match b with
  | none => 0
  | some q => if q.1 = ceil then 1 else 0
theorem c_leastHarmIs {ceil : Int} (hg : gPl g o) (ha : gWl g a) (hd : a + 5 < o ∨ o + 5 < a) (hw : wOK T (cv σ a)) (hs : wS (cv σ a)) (h200 : 200 ≤ T) (hT : T ≤ 89000) (hc : 0 ≤ ceil ∧ ceil ≤ 1000) : ∃ σ2, Ca (d + 14) yX3_leastHarmIs [vR (some o), vR (some a), vI ceil] g σ [vI (lh2 ceil (bst (cv σ a)))] g σ2 ∧ Fr o σ σ2 := by
  obtain ⟨σ2, t1, t2, t3, t4, t5⟩ := c_search (d := d) (al := 1) (ceil := ceil) hg ha hd hw hs h200 hT (Or.inr ⟨rfl, hc⟩)
  refine ⟨σ2, ca_in cd_X3_leastHarmIs bd_X3_leastHarmIs rfl (by decide) (Nat.le_of_ble_eq_true rfl) (fun Q P hP hQ => ?_), t5⟩
  have hr := t2.r
  refine k_X3_leastHarmIs_0 hP o a _ hg ha ⟨σ2, t1, rO (by omega) (by omega), fun z => ?_, fun z => ⟨rO (by omega) (by omega), rO (by omega) (by omega), fun z2 => ?_, fun z2 => ?_⟩⟩
  · rcases t2 with ⟨h1, -⟩ | ⟨h1, -, h⟩
    · omega
    · rcases h with ⟨h1, h2, h3, h4⟩ | ⟨q, h1, h2, h3, h4, h5⟩ | ⟨q, h1, h2, h3, h4, h5⟩
      · rcases h1 with e | ⟨q, e, hq⟩
        · rw [e] at hQ; exact hQ
        · rw [e, lh2, if_neg (by omega)] at hQ; exact hQ
      · omega
      · omega
  · rcases t2 with ⟨h1, -⟩ | ⟨h1, -, h⟩
    · omega
    · rcases h with ⟨h1, h2, h3, h4⟩ | ⟨q, h1, h2, h3, h4, h5⟩ | ⟨q, h1, h2, h3, h4, h5⟩
      · omega
      · omega
      · rw [h1, lh2, if_neg (by omega)] at hQ; exact hQ
  · rcases t2 with ⟨h1, -⟩ | ⟨h1, -, h⟩
    · omega
    · rcases h with ⟨h1, h2, h3, h4⟩ | ⟨q, h1, h2, h3, h4, h5⟩ | ⟨q, h1, h2, h3, h4, h5⟩
      · omega
      · rw [h1, lh2, if_pos h2] at hQ; exact hQ
      · omega
/-- the planner at o holds the best for w -/
def plK (σ : pM) (o : Nat) (w : Wl) : Prop := cN (σ o 0) (σ o 2) (σ o 3) (σ (o + 4)) (un w).toNat (bst w) ∧ σ o 1 = un w
theorem plK.r {w : Wl} (h : plK σ o w) : (σ o 0 = 0 ∨ σ o 0 = 1) ∧ (-1 ≤ σ o 2 ∧ σ o 2 ≤ 1000000000) := by
  have h1 := h.1
  generalize bst w = b at h1
  cases b with
  | none => obtain ⟨h1, h2, h3⟩ := h1; omega
  | some q => obtain ⟨h1, h2, h3, h4, h5, -⟩ := h1; omega
theorem c_leastHarm {w : Wl} (hg : gPl g o) (h : plK σ o w) : Ca (d + 1) yX3_leastHarm [vR (some o)] g σ [vI (bH (bst w))] g σ := by
  refine ca_in cd_X3_leastHarm bd_X3_leastHarm rfl (by decide) (Nat.le_of_ble_eq_true rfl) (fun Q P hP hQ => ?_)
  have hr := h.r
  have h1 := h.1
  refine k_X3_leastHarm_0 hP o hg ⟨rO (by omega) (by omega), fun z => ?_, fun z => ?_⟩
  · generalize bst w = b at h1 hQ
    cases b with
    | none => exact hQ
    | some q => have := h1.1; omega
  · generalize bst w = b at h1 hQ
    cases b with
    | none => have := h1.1; omega
    | some q => rw [h1.2.1]; exact hQ
theorem c_earliestEnd {w : Wl} (hg : gPl g o) (h : plK σ o w) : Ca (d + 1) yX3_earliestEnd [vR (some o)] g σ [vI (bE (bst w))] g σ := by
  refine ca_in cd_X3_earliestEnd bd_X3_earliestEnd rfl (by decide) (Nat.le_of_ble_eq_true rfl) (fun Q P hP hQ => ?_)
  have hr := h.r
  have h1 := h.1
  refine k_X3_earliestEnd_0 hP o hg ⟨rO (by omega) (by omega), fun z => ?_, fun z => ?_⟩
  · generalize bst w = b at h1 hQ
    cases b with
    | none => exact hQ
    | some q => have := h1.1; omega
  · generalize bst w = b at h1 hQ
    cases b with
    | none => have := h1.1; omega
    | some q => rw [h1.2.2.1]; exact hQ
theorem c_cellAt {w : Wl} {i : Int} (hg : gPl g o) (hw : wOK T w) (h : plK σ o w) (hi : iR i) : Ca (d + 1) yX3_cellAt [vR (some o), vI i] g σ [vI (bC (un w) (bst w) i)] g σ := by
  refine ca_in cd_X3_cellAt bd_X3_cellAt rfl (by decide) (Nat.le_of_ble_eq_true rfl) (fun Q P hP hQ => ?_)
  have hr := h.r
  have h1 := h.1
  have h2 := h.2
  have hub := un_bd hw
  refine k_X3_cellAt_0 hP o _ hg ?_
  rw [h2]
  refine ⟨rO (by omega) (by omega), fun z => ?_, fun z => ⟨hi, fun z1 => ?_, fun z1 => ⟨hi, rO (by omega) (by omega), fun z2 => ?_, fun z2 => ⟨hi, fun z3 => absurd z3 (by omega), fun z3 => ⟨⟨by omega, by omega⟩, ?_⟩⟩⟩⟩⟩
  · generalize bst w = b at h1 hQ
    cases b with
    | none => exact hQ
    | some q => have := h1.1; omega
  · generalize bst w = b at h1 hQ
    cases b with
    | none => have := h1.1; omega
    | some q => rw [bC, if_neg (by omega)] at hQ; exact hQ
  · generalize bst w = b at h1 hQ
    cases b with
    | none => have := h1.1; omega
    | some q => rw [bC, if_neg (by omega)] at hQ; exact hQ
  · generalize bst w = b at h1 hQ
    cases b with
    | none => have := h1.1; omega
    | some q =>
      rw [bC, if_pos (by omega)] at hQ
      rw [h1.2.2.2.2.2 i.toNat (by omega)]
      exact hQ
end P8
