/-! What is asked of both: the book, waiting, lateness, harm behind -/
def fwF (w : Wl) (B : Bk) : Nat → Nat → Int
  | 0, _ => -1
  | m + 1, i => if acr w (B.2.1 i).toNat = -1 ∨ ¬ b2 (jnt w (B.2.1 i).toNat) = B.2.2 i then (i : Int) else fwF w B m (i + 1)
def mxU (f : Nat → Int) : Nat → Int
  | 0 => 0
  | n + 1 => if f (n + 1) = 1 then ((n + 1 : Nat) : Int) else mxU f n
def tmU (w : Wl) (n : Int) : Wl := up2 w 0 3 (w 0 3 + n)
def mwF (w : Wl) (q : Int) : Nat → Int := fun n => lh2 q (bst (tmU w (n : Int)))
def mw (w : Wl) : Int := match bst w with
  | none => -1
  | some q => mxU (mwF w q.1) 12
def dlU (w : Wl) (k : Nat) (n : Int) : Wl := up2 w 4 k (w 4 k + n)
def mlF (w : Wl) (k : Nat) (q : Int) : Nat → Int := fun n => if w 4 k + (n : Int) ≤ 99 ∧ used w ≤ bro (dlU w k (n : Int)) (w 0 3) then lh2 q (bst (dlU w k (n : Int))) else 0
def mlt (w : Wl) (k : Nat) : Int := match bst w with
  | none => -1
  | some q => mxU (mlF w k q.1) 12
def hbh (w : Wl) (c : Nat) : Int := if stt w c = -1 then -1 else hrm (fil w c)
section S3
variable {d : Nat} {g : pG} {σ σ2 : pM} {T : Int} {w w2 : Wl} {H : Hs} {s : Int} {B : Bk} {I : Ig}
theorem lh2_01 (q : Int) (b : Bs) : lh2 q b = 0 ∨ lh2 q b = 1 := by
  unfold lh2
  split
  · exact Or.inl rfl
  · split
    · exact Or.inr rfl
    · exact Or.inl rfl
theorem mxU_bd (f : Nat → Int) : ∀ n, 0 ≤ mxU f n ∧ mxU f n ≤ n
  | 0 => by simp [mxU]
  | n + 1 => by
    have := mxU_bd f n
    unfold mxU
    split <;> omega
theorem tmU_ok (hw : wOK T w) {n : Int} (hn : 0 ≤ n ∧ n ≤ 12) : wOK (T + 12) (tmU w n) := by
  obtain ⟨h1, h2, h3, h4, h5, h6, h7, h8, h9, h10, h11⟩ := hw
  refine ⟨h1, h2, h3, ⟨show 0 ≤ w 0 3 + n by omega, show w 0 3 + n ≤ T + 12 by omega⟩, h5, h6, h7, h8, h9, h10, fun c hc => ?_⟩
  have h := h11 c hc
  have e : tmU w n 0 3 = w 0 3 + n := rfl
  have e1 : tmU w n 1 c = w 1 c := rfl
  have e2 : tmU w n 2 c = w 2 c := rfl
  have e3 : tmU w n 3 c = w 3 c := rfl
  have e4 : tmU w n 0 2 = w 0 2 := rfl
  rw [e, e1, e2, e3, e4]
  omega
theorem tmU_S (hs : wS w) {n : Int} : wS (tmU w n) := hs
theorem dlU_S (hs : wS w) {k : Nat} {n : Int} : wS (dlU w k n) := hs
theorem c_firstWrong (hG : gAll g) (hw : wOK T (cv σ 2)) (hT : T ≤ 1000000) (hb : bkR σ B) (hB : B.1 ≤ 20 ∧ ∀ i, i < B.1 → (0 ≤ B.2.1 i ∧ B.2.1 i < 27) ∧ (B.2.2 i = 0 ∨ B.2.2 i = 1)) : Ca (d + 4) yX0_firstWrong [vR (some 148), vR (some 2)] g σ [vI (fwF (cv σ 2) B B.1 0)] g σ := by
  refine ca_in cd_X0_firstWrong bd_X0_firstWrong rfl (by decide) (Nat.le_of_ble_eq_true rfl) (fun Q P hP hQ => ?_)
  refine k_X0_firstWrong_0 hP 2 hG hG.W_2 ?_
  have loop : ∀ (m i : Nat), i + m = B.1 → Q [vI (fwF (cv σ 2) B m i)] g σ → P 2 [(0, vR (some 148)), (1, vR (some 2)), (2, vI (i : Int))] [] g σ 0 0 := by
    intro m
    induction m with
    | zero =>
      intro i hi hq
      refine k_X0_firstWrong_2 hP 2 _ hG hG.W_2 ?_
      rw [hb.1]
      exact ⟨rO (by omega) (by omega), rO (by omega) (by omega), fun _ => hq, fun z => absurd (by omega) z⟩
    | succ m ih =>
      intro i hi hq
      have hBi := hB.2 i (by omega)
      have hbi := hb.2 i (by omega)
      obtain ⟨e, he⟩ := Int.eq_ofNat_of_zero_le hBi.1.1
      have he27 : e < 27 := by omega
      have ed := c_isEdge (d := d + 1) (σ := σ) (o := 2) (T := T) (e := (e : Int)) hG.W_2 hw (rO (by omega) (by omega))
      rw [acI_nat] at ed
      have jn := c_jnt (d := d) (σ := σ) (o := 2) (T := T) (e := e) hG.W_2 hw hT he27
      rw [fwF, he, Int.toNat_natCast] at hq
      refine k_X0_firstWrong_2 hP 2 _ hG hG.W_2 ?_
      rw [hb.1, Int.toNat_natCast, hbi.1, hbi.2, he]
      refine ⟨rO (by omega) (by omega), rO (by omega) (by omega), fun z => absurd z (by omega), fun _ => ⟨rO (by omega) (by omega), fun z => absurd z (by omega), fun _ => ⟨⟨by omega, by omega⟩, _, ed, b2_iR _, fun z => ?_, fun z => ⟨⟨by omega, by omega⟩, _, jn, ⟨by omega, by omega⟩, b2_iR _, ?_, fun z2 => ?_, fun z2 => ?_⟩⟩⟩⟩
      · rw [if_pos (Or.inl (Decidable.not_not.mp (b2_0 z)))] at hq; exact hq
      · rcases hBi.2 with q | q <;> rw [q] <;> decide
      · have zz : ¬ acr (cv σ 2) e = -1 := b2_1 z
        rw [if_neg (fun y => y.elim zz (fun y => y z2))] at hq
        exact ih (i + 1) (by omega) hq
      · rw [if_pos (Or.inr z2)] at hq; exact hq
  exact loop B.1 0 (by omega) hQ
theorem c_wrong (hG : gAll g) (hw : wOK T (mv σ 0)) (hT : T ≤ 90000) (hb : σ 166 5 = (B.1 : Int) ∧ ∀ i, i < B.1 → σ 170 i = B.2.1 i ∧ σ 171 i = B.2.2 i) (hB : B.1 ≤ 20 ∧ ∀ i, i < B.1 → (0 ≤ B.2.1 i ∧ B.2.1 i < 27) ∧ (B.2.2 i = 0 ∨ B.2.2 i = 1)) : Ca (d + 4) yX6_wrong [vR (some 166)] g σ [vI (fwF (mv σ 0) B B.1 0)] g σ := by
  refine ca_in cd_X6_wrong bd_X6_wrong rfl (by decide) (Nat.le_of_ble_eq_true rfl) (fun Q P hP hQ => ?_)
  refine k_X6_wrong_0 hP hG ?_
  have loop : ∀ (m i : Nat), i + m = B.1 → Q [vI (fwF (mv σ 0) B m i)] g σ → P 2 [(0, vR (some 166)), (1, vI (i : Int))] [] g σ 0 0 := by
    intro m
    induction m with
    | zero =>
      intro i hi hq
      refine k_X6_wrong_2 hP _ hG ?_
      rw [hb.1]
      exact ⟨rO (by omega) (by omega), rO (by omega) (by omega), fun _ => hq, fun z => absurd (by omega) z⟩
    | succ m ih =>
      intro i hi hq
      have hBi := hB.2 i (by omega)
      have hbi := hb.2 i (by omega)
      obtain ⟨e, he⟩ := Int.eq_ofNat_of_zero_le hBi.1.1
      have he27 : e < 27 := by omega
      have ed := c_mbey (d := d + 1) (σ := σ) (r := 0) (T := T) (e := (e : Int)) hG hw (by decide) (rO (by omega) (by omega))
      rw [acI_nat] at ed
      have jn := c_mjnt (d := d) (σ := σ) (r := 0) (T := T) (e := e) hG hw hT (by decide) he27
      have hab := acr_bd hw e
      rw [fwF, he, Int.toNat_natCast] at hq
      refine k_X6_wrong_2 hP _ hG ?_
      rw [hb.1, Int.toNat_natCast, hbi.1, hbi.2, he]
      refine ⟨rO (by omega) (by omega), rO (by omega) (by omega), fun z => absurd z (by omega), fun _ => ⟨⟨by omega, by omega⟩, _, ed, rO (by omega) (by omega), fun z => ?_, fun z => ⟨⟨by omega, by omega⟩, _, jn, ⟨by omega, by omega⟩, b2_iR _, ?_, fun z2 => ?_, fun z2 => ?_⟩⟩⟩
      · rw [if_pos (Or.inl z)] at hq; exact hq
      · rcases hBi.2 with q | q <;> rw [q] <;> decide
      · rw [if_neg (fun y => y.elim z (fun y => y z2))] at hq
        exact ih (i + 1) (by omega) hq
      · rw [if_pos (Or.inr z2)] at hq; exact hq
  exact loop B.1 0 (by omega) hQ
theorem plK.some {q : Int × Int × (Nat → Int)} (h : plK σ 14 w) (hb : bst w = some q) : σ 14 0 = 1 ∧ σ 14 2 = q.1 ∧ (0 ≤ q.1 ∧ q.1 ≤ 1000) := by
  have h1 := h.1
  rw [hb] at h1
  exact ⟨h1.1, h1.2.1, h1.2.2.2.1⟩
theorem plK.none (h : plK σ 14 w) (hb : bst w = none) : σ 14 0 = 0 := by
  have h1 := h.1
  rw [hb] at h1
  exact h1.1
theorem plK.co (h : ∀ x, 14 ≤ x → x ≤ 19 → σ2 x = σ x) (hk : plK σ 14 w) : plK σ2 14 w := by
  unfold plK
  rw [h 14 (by decide) (by decide), h (14 + 4) (by decide) (by decide)]
  exact hk
theorem c_mayWait (hG : gAll g) (hc : CI σ w H s B I) (hw : wOK T w) (hs : wS w) (h200 : 200 ≤ T) (hT : T ≤ 88000) : ∃ σ2, Ca (d + 16) yX5_mayWait [vR (some 1)] g σ [vI (mw w)] g σ2 ∧ CI σ2 w H s B I ∧ FrC σ σ2 := by
  obtain ⟨s1, p1, p2, p3, p4⟩ := c_plan (d := d + 1) hG hc hw hs h200 (by omega)
  have f1 : FrC σ s1 := fun x hx => p4 x (by omega) (by omega)
  cases hb : bst w with
  | none =>
    refine ⟨s1, ca_in cd_X5_mayWait bd_X5_mayWait rfl (by decide) (Nat.le_of_ble_eq_true rfl) (fun Q P hP hQ => ?_), p2, f1⟩
    have h0 := p3.none hb
    rw [mw, hb] at hQ
    exact k_X5_mayWait_0 hP hG ⟨s1, p1, by rw [h0]; decide, fun z => absurd h0 z, fun _ => hQ⟩
  | some q =>
    have hq := p3.some hb
    have loop : ∀ (n : Nat) (t : pM), n ≤ 12 → CI t w H s B I → plK t 14 w → FrC σ t → ∃ σ2, CI σ2 w H s B I ∧ FrC σ σ2 ∧ ∀ (Q : pQ) (P : pP), Clo (pCall (d + 15)) yX5_mayWait cX5_mayWait (some .int) 3 0 0 Q P → Q [vI (mxU (mwF w q.1) n)] g σ2 → P 17 [(0, vR (some 1)), (1, vR (some 14)), (2, vI (n : Int))] [] g t 0 0 := by
      intro n
      induction n with
      | zero =>
        intro t hn ht hk hf
        exact ⟨t, ht, hf, fun Q P hP hQ => k_X5_mayWait_17 hP _ hG ⟨by decide, fun _ => hQ, fun z => absurd (by decide) z⟩⟩
      | succ n ih =>
        intro t hn ht hk hf
        obtain ⟨t1, a1, a2, a3⟩ := c_copyFrom (d := d + 13) (σ := t) (o := 8) (a := 2) hG.W_8 hG.W_2 (by decide)
        rw [ht.1] at a2
        have e83 : t1 8 3 = w 0 3 := by rw [← a2]; exact (cv0 (by decide)).symm
        have cvt : cv (up2 t1 8 3 (w 0 3 + ((n + 1 : Nat) : Int))) 8 = tmU w ((n + 1 : Nat) : Int) := by rw [cv_up0 (by decide), a2]; rfl
        have hqt := hk.some hb
        obtain ⟨t2, b1, b2'⟩ := c_leastHarmIs (d := d + 1) (σ := up2 t1 8 3 (w 0 3 + ((n + 1 : Nat) : Int))) (o := 20) (a := 8) (T := T + 12) (ceil := q.1) hG.P_20 hG.W_8 (by decide) (by rw [cvt]; exact tmU_ok hw (by omega)) (by rw [cvt]; exact tmU_S hs) (by omega) (by omega) hqt.2.2
        rw [cvt] at b1
        have all : ∀ x, (x < 8 ∨ 13 < x) → (x < 20 ∨ 25 < x) → t2 x = t x := fun x h1 h2 => by
          rw [b2' x (by omega), up2_ne (by omega), a3 x (by omega)]
        have ht2 : CI t2 w H s B I := ht.co (fun x hx => all x (by omega) (by omega))
        have hk2 : plK t2 14 w := hk.co (fun x h1 h2 => all x (by omega) (by omega))
        have hf2 : FrC σ t2 := hf.tr (fun x hx => all x (by omega) (by omega))
        have e142 : (up2 t1 8 3 (w 0 3 + ((n + 1 : Nat) : Int))) 14 2 = q.1 := by rw [up2_ne (by decide), a3 14 (by decide)]; exact hqt.2.1
        have h01 := lh2_01 q.1 (bst (tmU w ((n + 1 : Nat) : Int)))
        by_cases hy : lh2 q.1 (bst (tmU w ((n + 1 : Nat) : Int))) = 1
        · refine ⟨t2, ht2, hf2, fun Q P hP hQ => ?_⟩
          have e : mxU (mwF w q.1) (n + 1) = ((n + 1 : Nat) : Int) := if_pos hy
          rw [e] at hQ
          refine k_X5_mayWait_17 hP _ hG ⟨rO (by omega) (by omega), fun z => absurd z (by omega), fun _ => ⟨t1, a1, ?_⟩⟩
          rw [e83, e142]
          exact ⟨_, t2, b1, rO (by omega) (by omega), fun z => absurd z (by omega), fun _ => hQ⟩
        · obtain ⟨σ2, r1, r2, r3⟩ := ih t2 (by omega) ht2 hk2 hf2
          refine ⟨σ2, r1, r2, fun Q P hP hQ => ?_⟩
          have e : mxU (mwF w q.1) (n + 1) = mxU (mwF w q.1) n := if_neg hy
          rw [e] at hQ
          have h17 := r3 Q P hP hQ
          refine k_X5_mayWait_17 hP _ hG ⟨rO (by omega) (by omega), fun z => absurd z (by omega), fun _ => ⟨t1, a1, ?_⟩⟩
          rw [e83, e142]
          refine ⟨_, t2, b1, rO (by omega) (by omega), fun _ => ?_, fun z => absurd (by omega) z⟩
          rw [show ((n + 1 : Nat) : Int) + (-1) = (n : Int) by omega]
          exact h17
    obtain ⟨σ2, r1, r2, r3⟩ := loop 12 s1 (by decide) p2 p3 f1
    refine ⟨σ2, ca_in cd_X5_mayWait bd_X5_mayWait rfl (by decide) (Nat.le_of_ble_eq_true rfl) (fun Q P hP hQ => ?_), r1, r2⟩
    rw [mw, hb] at hQ
    exact k_X5_mayWait_0 hP hG ⟨s1, p1, by rw [hq.1]; decide, fun _ => r3 Q P hP hQ, fun z => absurd (by rw [hq.1]; decide) z⟩
theorem mB2.r {N : Nat} {b : Bs} (h : mB2 σ N b) (hN : N ≤ 9) : iR (σ 166 8) ∧ iR (σ 166 9) ∧ (σ 166 8 = -1 ↔ b = none) ∧ σ 166 9 = bH b ∧ σ 166 10 = bE b := by
  cases b with
  | none =>
    obtain ⟨h1, h2, h3⟩ := h
    rw [h1, h2, h3]
    exact ⟨by decide, by decide, ⟨fun _ => rfl, fun _ => rfl⟩, rfl, rfl⟩
  | some q =>
    obtain ⟨h1, h2, h3, h4, h5, h6⟩ := h
    rw [h1, h2, h3]
    exact ⟨rO (by omega) (by omega), rO (by omega) (by omega), ⟨fun z => by omega, fun z => nomatch z⟩, rfl, rfl⟩
theorem lh2_iff {q : Int} {b : Bs} : lh2 q b = 1 ↔ (¬ b = none ∧ bH b = q) := by
  cases b with
  | none => exact ⟨fun z => absurd (show (0 : Int) = 1 from z) (by decide), fun z => absurd rfl z.1⟩
  | some r =>
    show (if r.1 = q then (1 : Int) else 0) = 1 ↔ _
    constructor
    · intro z
      split at z
      · rename_i y; exact ⟨fun x => (nomatch x), y⟩
      · exact absurd z (by decide)
    · intro z
      exact if_pos z.2
theorem c_mmayWait (hG : gAll g) (hm : MI σ w H s B I) (hw : wOK T w) (hs : wS w) (h200 : 200 ≤ T) (hT : T ≤ 88000) : ∃ σ2, Ca (d + 8) yX6_mayWait [vR (some 166)] g σ [vI (mw w)] g σ2 ∧ MI σ2 w H s B I ∧ FrM σ σ2 := by
  have hw0 : wOK T (mv σ 0) := by rw [hm.1]; exact hw
  obtain ⟨s1, p1, p2, p3⟩ := c_finds (d := d) hG hw0 h200 (by omega)
  rw [hm.1] at p2
  have hub := un_bd hw
  have hr := p2.r (by omega)
  cases hb : bst w with
  | none =>
    refine ⟨s1, ca_in cd_X6_mayWait bd_X6_mayWait rfl (by decide) (Nat.le_of_ble_eq_true rfl) (fun Q P hP hQ => ?_), hm.fk p3, p3.frM⟩
    rw [mw, hb] at hQ
    exact k_X6_mayWait_0 hP hG ⟨s1, p1, hr.1, fun z => absurd (hr.2.2.1.mpr hb) z, fun _ => hQ⟩
  | some q =>
    have hne : ¬ s1 166 8 = -1 := fun z => by
      have := hr.2.2.1.mp z
      rw [hb] at this
      exact nomatch this
    have e9 : s1 166 9 = q.1 := by rw [hr.2.2.2.1, hb]; rfl
    have hq9 : iR q.1 := by rw [← e9]; exact hr.2.1
    have loop : ∀ (m n : Nat) (t : pM), n + m = 12 → MI t w H s B I → FrM σ t → ∃ σ2, MI σ2 w H s B I ∧ FrM σ σ2 ∧ ∀ (Q : pQ) (P : pP), Clo (pCall (d + 7)) yX6_mayWait cX6_mayWait (some .int) 4 0 0 Q P → Q [vI (mxU (mwF w q.1) 12)] g σ2 → P 23 [(0, vR (some 166)), (1, vI q.1), (2, vI (mxU (mwF w q.1) n)), (3, vI ((n : Int) + 1))] [] g t 0 0 := by
      intro m
      induction m with
      | zero =>
        intro n t hn ht hf
        obtain rfl : n = 12 := by omega
        exact ⟨t, ht, hf, fun Q P hP hQ => k_X6_mayWait_23 hP _ _ _ hG ⟨by decide, fun _ => hQ, fun z => absurd (by decide) z⟩⟩
      | succ m ih =>
        intro n t hn ht hf
        obtain ⟨t1, a1, a2, a3, -⟩ := c_mcopy (d := d + 6) (σ := t) (p := 0) (q := 52) hG (by decide) (by decide) (by decide)
        rw [ht.1] at a2
        have e54 : t1 167 54 = w 0 3 := by rw [← a2]; exact (m_tm (σ := t1) (r := 52)).symm
        have mvt : mv (up2 t1 167 54 (w 0 3 + ((n : Int) + 1))) 52 = tmU w ((n + 1 : Nat) : Int) := by
          have u := mv_up0 (σ := t1) (r := 52) (i := 2) (j := 3) (v := w 0 3 + ((n : Int) + 1)) (Or.inl ⟨rfl, rfl⟩)
          rw [a2] at u
          exact u
        have hwt := tmU_ok (n := ((n + 1 : Nat) : Int)) hw (by omega)
        have hubt := un_bd hwt
        obtain ⟨t2, b1, b2', b3, b4⟩ := c_seeks (d := d + 1) (T := T + 12) (N := (un (tmU w ((n + 1 : Nat) : Int))).toNat) hG mvt hwt (by omega) (by omega) (by omega) (fun _ => 0)
        have hr2 := b3.r (by omega)
        have hfk : Fk t t2 := ((Fk.m a3).tr (Fk.up (a := 167) (i := 54) (by omega))).tr b4
        have ht2 : MI t2 w H s B I := ht.fk hfk
        have hf2 : FrM σ t2 := hf.tr hfk.frM
        obtain ⟨σ2, r1, r2, r3⟩ := ih (n + 1) t2 (by omega) ht2 hf2
        refine ⟨σ2, r1, r2, fun Q P hP hQ => ?_⟩
        have h23 := r3 Q P hP hQ
        rw [show ((n + 1 : Nat) : Int) + 1 = (n : Int) + 1 + 1 by omega] at h23
        refine k_X6_mayWait_23 hP _ _ _ hG ⟨rO (by omega) (by omega), fun z => absurd z (by omega), fun _ => ⟨t1, a1, ?_⟩⟩
        rw [e54]
        have hbt : exG (un (tmU w ((n + 1 : Nat) : Int))).toNat (tmU w ((n + 1 : Nat) : Int)) (fun _ => 0) 0 none = bst (tmU w ((n + 1 : Nat) : Int)) := rfl
        rw [hbt] at hr2
        refine ⟨t2, b1, hr2.1, fun z => ?_, fun z => ⟨hr2.2.1, hq9, fun z2 => ?_, fun z2 => ?_⟩⟩
        · have e : mxU (mwF w q.1) (n + 1) = mxU (mwF w q.1) n := if_neg (fun y => (lh2_iff.mp y).1 (hr2.2.2.1.mp z))
          rw [e] at h23; exact h23
        · have e : mxU (mwF w q.1) (n + 1) = mxU (mwF w q.1) n := if_neg (fun y => z2 (by rw [hr2.2.2.2.1]; exact (lh2_iff.mp y).2))
          rw [e] at h23; exact h23
        · have e : mxU (mwF w q.1) (n + 1) = ((n + 1 : Nat) : Int) := if_pos (lh2_iff.mpr ⟨fun y => z (hr2.2.2.1.mpr y), by rw [← hr2.2.2.2.1]; exact Decidable.not_not.mp z2⟩)
          rw [e] at h23; exact h23
    obtain ⟨σ2, r1, r2, r3⟩ := loop 12 0 s1 rfl (hm.fk p3) p3.frM
    refine ⟨σ2, ca_in cd_X6_mayWait bd_X6_mayWait rfl (by decide) (Nat.le_of_ble_eq_true rfl) (fun Q P hP hQ => ?_), r1, r2⟩
    rw [mw, hb] at hQ
    have h23 := r3 Q P hP hQ
    refine k_X6_mayWait_0 hP hG ⟨s1, p1, hr.1, fun _ => ?_, fun z => absurd hne z⟩
    rw [e9]
    exact h23
theorem c_harmBehind {c : Nat} (hG : gAll g) (hc : CI σ w H s B I) (hw : wOK T w) (h200 : 200 ≤ T) (hT : T ≤ 88000) (hc9 : c < 9) : ∃ σ2, Ca (d + 5) yX5_harmBehind [vR (some 1), vI (c : Int)] g σ [vI (hbh w c)] g σ2 ∧ CI σ2 w H s B I ∧ FrC σ σ2 := by
  have h1 := hc.1
  have hst := c_stt (d := d + 1) (σ := σ) (o := 2) (T := T) (c := c) hG.W_2 (by rw [h1]; exact hw) (by omega) hc9
  rw [h1] at hst
  have hsb := stt_bd hw (by omega) c
  by_cases hq : stt w c = -1
  · refine ⟨σ, ca_in cd_X5_harmBehind bd_X5_harmBehind rfl (by decide) (Nat.le_of_ble_eq_true rfl) (fun Q P hP hQ => ?_), hc, FrC.rf⟩
    rw [hbh, if_pos hq] at hQ
    exact k_X5_harmBehind_0 hP _ hG ⟨_, hst, rO (by omega) (by omega), fun z => absurd hq z, fun _ => hQ⟩
  · obtain ⟨t1, a1, a2, a3⟩ := c_copyFrom (d := d + 2) (σ := σ) (o := 8) (a := 2) hG.W_8 hG.W_2 (by decide)
    rw [h1] at a2
    obtain ⟨t2, b1, b2', b3⟩ := c_fill (d := d) (σ := t1) (o := 8) (T := T) (c := c) hG.W_8 (by rw [a2]; exact hw) (by omega) hc9
    rw [a2] at b2'
    have hh := c_harm (d := d) (σ := t2) (o := 8) (T := T + 3) hG.W_8 (by rw [b2']; exact fil_ok hw h200 hc9) (by omega)
    rw [b2'] at hh
    have all : ∀ x, (x < 8 ∨ 13 < x) → t2 x = σ x := fun x hx => by rw [b3 x (by omega), a3 x (by omega)]
    refine ⟨t2, ca_in cd_X5_harmBehind bd_X5_harmBehind rfl (by decide) (Nat.le_of_ble_eq_true rfl) (fun Q P hP hQ => ?_), hc.co (fun x hx => all x (by omega)), fun x hx => all x (by omega)⟩
    rw [hbh, if_neg hq] at hQ
    exact k_X5_harmBehind_0 hP _ hG ⟨_, hst, rO (by omega) (by omega), fun _ => ⟨t1, a1, t2, b1, _, hh, hQ⟩, fun z => absurd hq z⟩
theorem c_mharmBehind {c : Nat} (hG : gAll g) (hm : MI σ w H s B I) (hw : wOK T w) (h200 : 200 ≤ T) (hT : T ≤ 88000) (hc2 : (c : Int) < w 0 2) : ∃ σ2, Ca (d + 5) yX6_harmBehind [vR (some 166), vI (c : Int)] g σ [vI (hbh w c)] g σ2 ∧ MI σ2 w H s B I ∧ FrM σ σ2 := by
  have hcl := hw.cells
  obtain ⟨t1, a1, a2, a3, -⟩ := c_mcopy (d := d + 3) (σ := σ) (p := 0) (q := 52) hG (by decide) (by decide) (by decide)
  rw [hm.1] at a2
  obtain ⟨t2, b1, b2', b3⟩ := c_mpours (d := d) (σ := t1) (r := 52) (T := T) (c := c) hG (by rw [a2]; exact hw) (by omega) (by decide) (by rw [a2]; exact hc2)
  rw [a2] at b1 b2'
  have hfk : Fk σ t2 := (Fk.m a3).tr (Fk.m b3)
  have hh : Ca (d + 4) yX6_harm [vR (some 166), vI 52, vI 0] g t2 [vI (hrm (fil w c))] g t2 := by
    have := c_mharm (d := d) (σ := t2) (s := false) (r := 52) (T := T + 3) hG (by rw [b2']; exact fil_ok hw h200 (by omega)) (by omega) (by decide)
    rw [b2'] at this
    exact this
  refine ⟨t2, ca_in cd_X6_harmBehind bd_X6_harmBehind rfl (by decide) (Nat.le_of_ble_eq_true rfl) (fun Q P hP hQ => ?_), hm.fk hfk, hfk.frM⟩
  refine k_X6_harmBehind_0 hP _ hG ⟨t1, a1, _, t2, b1, b2_iR _, fun z => ?_, fun z => ⟨_, hh, ?_⟩⟩
  · rw [hbh, if_pos (Decidable.not_not.mp (b2_0 z))] at hQ; exact hQ
  · have zz : ¬ stt w c = -1 := b2_1 z
    rw [hbh, if_neg zz] at hQ; exact hQ
end S3
