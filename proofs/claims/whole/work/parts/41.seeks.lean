/-! The model's search -/
section M5
variable {d : Nat} {g : pG} {T : Int}
theorem mB2_cong {σ σ2 : pM} {N : Nat} {b : Bs} (h1 : σ2 166 8 = σ 166 8) (h2 : σ2 166 9 = σ 166 9) (h3 : σ2 166 10 = σ 166 10) (h4 : σ2 172 = σ 172) (h : mB2 σ N b) : mB2 σ2 N b := by
  cases b with
  | none => exact ⟨by rw [h1]; exact h.1, by rw [h2]; exact h.2.1, by rw [h3]; exact h.2.2⟩
  | some q => exact ⟨by rw [h1]; exact h.1, by rw [h2]; exact h.2.1, by rw [h3]; exact h.2.2.1, h.2.2.2.1, h.2.2.2.2.1, by rw [h4]; exact h.2.2.2.2.2⟩
theorem mB2_m {σ σ2 : pM} {N : Nat} {b : Bs} (hf : Fm 52 σ σ2) (h : mB2 σ N b) : mB2 σ2 N b :=
  mB2_cong (by rw [hf.1 166 (by decide)]) (by rw [hf.1 166 (by decide)]) (by rw [hf.1 166 (by decide)]) (hf.1 172 (by decide)) h
theorem fil_back {w : Wl} (hw : wOK T w) {c : Nat} (hc : c < 9) (h : ¬ stt w c = -1) : up2 (up2 (up2 (fil w c) 2 c (-1)) 3 c (-1)) 0 3 (w 0 3) = w := by
  have hb := hw.bd hc
  have h2 : w 2 c = -1 := by
    unfold stt at h
    split at h
    · rename_i q; exact q.2.1
    · exact absurd rfl h
  have h3 : w 3 c = -1 := by omega
  rw [fil, if_neg h]
  funext f j
  unfold up2
  by_cases f0 : f = 0
  · subst f0
    by_cases j3 : j = 3
    · simp [j3]
    · simp [j3]
  · by_cases f3 : f = 3
    · subst f3
      by_cases jc : j = c
      · simp [jc, h3]
      · simp [jc]
    · by_cases f2 : f = 2
      · subst f2
        by_cases jc : j = c
        · simp [jc, h2]
        · simp [jc]
      · simp [f0, f2, f3]
abbrev skC (d : Nat) (Q : pQ) (P : pP) : Prop := Clo (pCall (d + 5)) yX6_seeks cX6_seeks none 5 0 0 Q P
abbrev skL (C N : Int) (x : Int) : pL := [(0, vR (some 166)), (1, vI C), (2, vI N), (3, vI x)]
theorem sk_A {N : Nat} {C : Int} (hG : gAll g) (hN9 : N ≤ 9) : ∀ (n : Nat) (w : Wl) (dep : Nat) (ch : Nat → Int) (b : Bs) (T : Int) (σ : pM), dep + n = N → wOK T w → 200 ≤ T → T + 3 * n ≤ 90000 → w 0 2 = C → mv σ 52 = w → σ 173 dep = -1 → (∀ j, j < dep → σ 173 j = ch j) → mB2 σ N b →
    ∃ σ2, mv σ2 52 = w ∧ (∀ j, j < dep → σ2 173 j = σ 173 j ∧ σ2 174 j = σ 174 j) ∧ mB2 σ2 N (exG n w ch dep b) ∧ Fk σ σ2 ∧ ∀ (Q : pQ) (P : pP), skC d Q P → P 73 (skL C N ((dep : Int) + (-1))) [] g σ2 0 0 → P 73 (skL C N (dep : Int)) [] g σ 0 0
  | 0, w, dep, ch, b, T, σ, hd, hw, h200, hT, hC, hv, h1, hch, hb => by
    subst hv
    obtain rfl : dep = N := by omega
    obtain ⟨σ2, q1, q2, q3, q4⟩ := c_weighs (d := d) hG hw (by omega) hN9 hb hch
    refine ⟨σ2, mv_cong (fun i _ => by rw [q3 167 (by decide) (by decide)]), fun j _ => by rw [q3 173 (by decide) (by decide), q3 174 (by decide) (by decide)]; exact ⟨rfl, rfl⟩, q2, q4, fun Q P hP h => ?_⟩
    exact kk_X6_seeks_73 hP _ _ _ hG ⟨rO (by omega) (by omega), fun z => absurd z (by omega), fun _ => ⟨rO (by omega) (by omega), rO (by omega) (by omega), fun z => absurd rfl z, fun _ => ⟨_, q1, h⟩⟩⟩
  | n + 1, w, dep, ch, b, T, σ, hd, hw, h200, hT, hC, hv, h1, hch, hb => by
    have hcl := hw.cells
    have htm := hw.tm
    have B : ∀ (m k : Nat) (s : pM), k + m = C.toNat → mv s 52 = w → s 174 dep = w 0 3 → (∀ j, j < dep → s 173 j = σ 173 j ∧ s 174 j = σ 174 j) → mB2 s N (fl (fun c b => if stt w c = -1 then b else exG n (fil w c) (c1 ch dep c) (dep + 1) b) b k) → Fk σ s →
        ∃ σ2, mv σ2 52 = w ∧ (∀ j, j < dep → σ2 173 j = σ 173 j ∧ σ2 174 j = σ 174 j) ∧ mB2 σ2 N (exG (n + 1) w ch dep b) ∧ Fk σ σ2 ∧ ∀ (Q : pQ) (P : pP), skC d Q P → P 73 (skL C N ((dep : Int) + (-1))) [] g σ2 0 0 → P 169 (skL C N (dep : Int) ++ [(4, vI (k : Int))]) [] g s 0 0 := by
      intro m
      induction m with
      | zero =>
        intro k s hk hs h174 hj hbs hfk
        refine ⟨s, hs, hj, ?_, hfk, fun Q P hP h => ?_⟩
        · rw [exG, show (w 0 2).toNat = k by omega]
          exact hbs
        · exact kk_X6_seeks_169 hP _ _ _ _ hG ⟨rO (by omega) (by omega), rO (by omega) (by omega), fun _ => ⟨rO (by omega) (by omega), rO (by omega) (by omega), fun _ => h, fun z => absurd (by omega) z⟩, fun z => absurd (by omega) z⟩
      | succ m ih =>
        intro k s hk hs h174 hj hbs hfk
        have hk9 : k < 9 := by omega
        have hws : wOK T (mv s 52) := by rw [hs]; exact hw
        obtain ⟨s2, p1, p2, p3⟩ := c_mpours (d := d + 1) (r := 52) (c := k) hG hws (by omega) (by decide) (by rw [hs]; omega)
        rw [hs] at p1 p2
        by_cases hst : stt w k = -1
        · have hv2 : mv s2 52 = w := by rw [p2, fil, if_pos hst]
          obtain ⟨σ2, r1, r2, r3, r4, r5⟩ := ih (k + 1) s2 (by omega) hv2 (by rw [p3.1 174 (by decide)]; exact h174) (fun j h => by rw [p3.1 173 (by decide), p3.1 174 (by decide)]; exact hj j h) (by
            rw [fl, if_pos hst]
            exact mB2_m p3 hbs) (hfk.tr (Fk.m p3))
          refine ⟨σ2, r1, r2, r3, r4, fun Q P hP h => ?_⟩
          have h5 := r5 Q P hP h
          refine kk_X6_seeks_169 hP _ _ _ _ hG ⟨rO (by omega) (by omega), rO (by omega) (by omega), fun z => absurd z (by omega), fun _ => ⟨_, _, p1, b2_iR _, fun z => absurd hst (b2_1 z), fun _ => h5⟩⟩
        · -- down
          have e173 : ∀ j, j < dep → (up2 (up2 s2 173 dep (k : Int)) 173 (dep + 1) (-1)) 173 j = s 173 j := fun j h => by
            have a1 : ¬ j = dep := by omega
            have a2 : ¬ j = dep + 1 := by omega
            rw [← p3.1 173 (by decide)]
            simp [up2, a1, a2]
          have e174 : (up2 (up2 s2 173 dep (k : Int)) 173 (dep + 1) (-1)) 174 = s 174 := by
            rw [up2_ne (by decide), up2_ne (by decide), p3.1 174 (by decide)]
          have ed : (up2 (up2 s2 173 dep (k : Int)) 173 (dep + 1) (-1)) 173 dep = (k : Int) := by simp [up2]
          obtain ⟨s4, t1, t2, t3, t4, t5⟩ := sk_A (C := C) hG hN9 n (fil w k) (dep + 1) (c1 ch dep k) (fl (fun c b => if stt w c = -1 then b else exG n (fil w c) (c1 ch dep c) (dep + 1) b) b k) (T + 3) (up2 (up2 s2 173 dep (k : Int)) 173 (dep + 1) (-1)) (by omega) (fil_ok hw h200 hk9) (by omega) (by omega) (by rw [fil, if_neg hst]; exact hC) (by
              rw [← p2]
              exact mv_cong (fun i _ => by rw [up2_ne (by decide), up2_ne (by decide)])) (by simp [up2]) (fun j h => by
              by_cases hjd : j = dep
              · rw [hjd, ed]; simp [c1]
              · rw [e173 j (by omega), (hj j (by omega)).1, hch j (by omega)]; simp [c1, hjd]) (mB2_cong (by rw [up2_ne (by decide), up2_ne (by decide)]) (by rw [up2_ne (by decide), up2_ne (by decide)]) (by rw [up2_ne (by decide), up2_ne (by decide)]) (by rw [up2_ne (by decide), up2_ne (by decide)]) (mB2_m p3 hbs))
          -- back
          have kd : s4 173 dep = (k : Int) := by rw [(t2 dep (by omega)).1, ed]
          have td : s4 174 dep = w 0 3 := by rw [(t2 dep (by omega)).2, e174, h174]
          have hv5 : mv (up2 (up2 (up2 s4 167 (86 + k) (-1)) 167 (95 + k) (-1)) 167 54 (w 0 3)) 52 = w := by
            have u0 := mv_up0 (σ := up2 (up2 s4 167 (86 + k) (-1)) 167 (95 + k) (-1)) (r := 52) (i := 2) (j := 3) (v := w 0 3) (Or.inl ⟨rfl, rfl⟩)
            have u3 := mv_up (σ := up2 s4 167 (86 + k) (-1)) (r := 52) (f := 3) (j := k) (v := -1) (by decide) (by decide) hk9
            have u2 := mv_up (σ := s4) (r := 52) (f := 2) (j := k) (v := -1) (by decide) (by decide) hk9
            rw [show 52 + mF 3 + k = 95 + k from rfl] at u3
            rw [show 52 + mF 2 + k = 86 + k from rfl] at u2
            rw [show 52 + 2 = 54 from rfl, u3, u2, t1] at u0
            rw [u0]
            exact fil_back hw hk9 hst
          have f5 : Fk s4 (up2 (up2 (up2 (up2 s4 167 (86 + k) (-1)) 167 (95 + k) (-1)) 167 54 (w 0 3)) 174 dep (w 0 3)) :=
            (((Fk.up (a := 167) (i := 86 + k) (by omega)).tr (Fk.up (a := 167) (i := 95 + k) (by omega))).tr (Fk.up (a := 167) (i := 54) (by omega))).tr (Fk.up (a := 174) (by omega))
          have f3 : Fk s2 (up2 (up2 s2 173 dep (k : Int)) 173 (dep + 1) (-1)) := (Fk.up (a := 173) (by omega)).tr (Fk.up (a := 173) (by omega))
          obtain ⟨σ2, r1, r2, r3, r4, r5⟩ := ih (k + 1) (up2 (up2 (up2 (up2 s4 167 (86 + k) (-1)) 167 (95 + k) (-1)) 167 54 (w 0 3)) 174 dep (w 0 3)) (by omega) ((mv_cong (fun i _ => by rw [up2_ne (by decide)])).trans hv5) (by simp [up2]) (fun j h => by
              have a1 : ¬ j = dep := by omega
              have b1 := t2 j (by omega)
              refine ⟨?_, ?_⟩
              · rw [up2_ne (by decide), up2_ne (by decide), up2_ne (by decide), up2_ne (by decide), b1.1, e173 j h, (hj j h).1]
              · have x1 : (up2 (up2 (up2 (up2 s4 167 (86 + k) (-1)) 167 (95 + k) (-1)) 167 54 (w 0 3)) 174 dep (w 0 3)) 174 j = s4 174 j := by simp [up2, a1]
                rw [x1, b1.2, e174, (hj j h).2]) (by
              rw [fl, if_neg hst]
              exact mB2_cong (by rw [up2_ne (by decide), up2_ne (by decide), up2_ne (by decide), up2_ne (by decide)]) (by rw [up2_ne (by decide), up2_ne (by decide), up2_ne (by decide), up2_ne (by decide)]) (by rw [up2_ne (by decide), up2_ne (by decide), up2_ne (by decide), up2_ne (by decide)]) (by rw [up2_ne (by decide), up2_ne (by decide), up2_ne (by decide), up2_ne (by decide)]) t3) ((((hfk.tr (Fk.m p3)).tr f3).tr t4).tr f5)
          refine ⟨σ2, r1, r2, r3, r4, fun Q P hP h => ?_⟩
          have h5 := r5 Q P hP h
          have h4 : P 73 (skL C N (dep : Int)) [] g s4 0 0 := by
            have y1 : (up2 s4 167 (86 + k) (-1)) 173 dep = (k : Int) := by rw [up2_ne (by decide)]; exact kd
            have y2 : (up2 (up2 s4 167 (86 + k) (-1)) 167 (95 + k) (-1)) 174 dep = w 0 3 := by rw [up2_ne (by decide), up2_ne (by decide)]; exact td
            have y3 : (up2 (up2 (up2 s4 167 (86 + k) (-1)) 167 (95 + k) (-1)) 167 54 (w 0 3)) 167 54 = w 0 3 := by simp [up2]
            have y4 : (up2 (up2 (up2 (up2 s4 167 (86 + k) (-1)) 167 (95 + k) (-1)) 167 54 (w 0 3)) 174 dep (w 0 3)) 173 dep = (k : Int) := by rw [up2_ne (by decide), up2_ne (by decide), up2_ne (by decide), up2_ne (by decide)]; exact kd
            refine kk_X6_seeks_73 hP _ _ _ hG ⟨rO (by omega) (by omega), fun z => absurd z (by omega), fun _ => ⟨rO (by omega) (by omega), rO (by omega) (by omega), fun _ => ?_, fun z => absurd (by omega) z⟩⟩
            rw [Int.toNat_natCast, kd, show ((86 : Int) + (k : Int)).toNat = 86 + k by omega, y1, show ((95 : Int) + (k : Int)).toNat = 95 + k by omega, y2]
            refine ⟨⟨by omega, by omega⟩, rO (by omega) (by omega), fun z => absurd z (by omega), fun _ => ⟨⟨by omega, by omega⟩, ⟨by omega, by omega⟩, ⟨by omega, by omega⟩, ⟨by omega, by omega⟩, ⟨by omega, by omega⟩, ?_⟩⟩
            refine kk_X6_seeks_146 hP _ _ _ hG ?_
            rw [Int.toNat_natCast, y3, y4]
            exact ⟨⟨by omega, by omega⟩, ⟨by omega, by omega⟩, h5⟩
          have h3 := t5 Q P hP (by
            rw [show (((dep + 1 : Nat) : Int) + (-1)) = (dep : Int) by omega]
            exact h4)
          refine kk_X6_seeks_169 hP _ _ _ _ hG ⟨rO (by omega) (by omega), rO (by omega) (by omega), fun z => absurd z (by omega), fun _ => ⟨_, _, p1, b2_iR _, fun _ => ⟨rO (by omega) (by omega), rO (by omega) (by omega), fun z => absurd z (by omega), fun _ => ⟨⟨by omega, by omega⟩, ⟨by omega, by omega⟩, ?_⟩⟩, fun z => absurd (b2_t hst) (by have := Decidable.not_not.mp z; omega)⟩⟩
          rw [Int.toNat_natCast, show ((dep : Int) + 1).toNat = dep + 1 by omega]
          exact h3
    have e0 : (up2 σ 174 dep (σ 167 54)) 173 dep = -1 := by rw [up2_ne (by decide)]; exact h1
    have e54 : σ 167 54 = w 0 3 := by rw [← hv]; exact (m_tm (σ := σ) (r := 52)).symm
    obtain ⟨σ2, r1, r2, r3, r4, r5⟩ := B C.toNat 0 (up2 σ 174 dep (w 0 3)) (by omega) (by
        rw [← hv]
        exact mv_cong (fun i _ => by rw [up2_ne (by decide)])) (by simp [up2]) (fun j h => by
        have a1 : ¬ j = dep := by omega
        exact ⟨by rw [up2_ne (by decide)], by simp [up2, a1]⟩) (mB2_cong (by rw [up2_ne (by decide)]) (by rw [up2_ne (by decide)]) (by rw [up2_ne (by decide)]) (by rw [up2_ne (by decide)]) hb) (Fk.up (a := 174) (by omega))
    refine ⟨σ2, r1, r2, r3, r4, fun Q P hP h => ?_⟩
    have h5 := r5 Q P hP h
    refine kk_X6_seeks_73 hP _ _ _ hG ⟨rO (by omega) (by omega), fun z => absurd z (by omega), fun _ => ⟨rO (by omega) (by omega), rO (by omega) (by omega), fun _ => ?_, fun z => absurd (by omega) z⟩⟩
    rw [Int.toNat_natCast, h1]
    refine ⟨⟨by omega, by omega⟩, by decide, fun _ => ?_, fun z => absurd rfl z⟩
    refine kk_X6_seeks_146 hP _ _ _ hG ?_
    rw [Int.toNat_natCast, e0, e54]
    exact ⟨⟨by omega, by omega⟩, ⟨by omega, by omega⟩, h5⟩
/-- how many cells are not poured -/
def un (w : Wl) : Int := su (fun c => if w 2 c = -1 then 1 else 0) (w 0 2).toNat
theorem un_bd {w : Wl} (hw : wOK T w) : 0 ≤ un w ∧ un w ≤ 9 := by
  have hcl := hw.cells
  have := su_bd (f := fun c => if w 2 c = -1 then 1 else 0) (a := 0) (b := 1) (n := (w 0 2).toNat) (fun k hk => by split <;> omega)
  unfold un
  omega
theorem c_seeks {σ : pM} {w : Wl} {N : Nat} (hG : gAll g) (hv : mv σ 52 = w) (hw : wOK T w) (h200 : 200 ≤ T) (hT : T ≤ 89000) (hN : (N : Int) = un w) (ch : Nat → Int) : ∃ σ2, Ca (d + 6) yX6_seeks [vR (some 166)] g σ [] g σ2 ∧ mv σ2 52 = w ∧ mB2 σ2 N (exG N w ch 0 none) ∧ Fk σ σ2 := by
  have hcl := hw.cells
  have hub := un_bd hw
  let s0 : pM := up2 (up2 (up2 (up2 σ 166 8 (-1)) 166 9 (-1)) 166 10 (-1)) 173 0 (-1)
  obtain ⟨σ2, r1, r2, r3, r4, r5⟩ := sk_A (d := d) (N := N) (C := w 0 2) hG (by omega) N w 0 ch none T s0 (by omega) hw h200 (by omega) rfl (by
    rw [← hv]
    exact mv_cong (fun i _ => rfl)) rfl (fun j h => by omega) ⟨rfl, rfl, rfl⟩
  refine ⟨σ2, ca_in cd_X6_seeks bd_X6_seeks rfl (by decide) (Nat.le_of_ble_eq_true rfl) (fun Q P hP hQ => ?_), r1, r3, ?_⟩
  · have h73 := r5 Q P hP (kk_X6_seeks_73 hP _ _ _ hG ⟨by decide, fun _ => hQ, fun z => absurd (by decide) z⟩)
    refine kk_X6_seeks_0 hP hG ?_
    have ec : ((up2 (up2 (up2 σ 166 8 ((-1))) 166 9 ((-1))) 166 10 ((-1))) 167 52) * ((up2 (up2 (up2 σ 166 8 ((-1))) 166 9 ((-1))) 166 10 ((-1))) 167 53) = w 0 2 := by
      rw [← hv]; exact (m_cl (σ := σ) (r := 52)).symm
    rw [ec]
    have hv1 : mv (up2 (up2 (up2 σ 166 8 (-1)) 166 9 (-1)) 166 10 (-1)) 52 = w := by
      rw [← hv]; exact mv_cong (fun i _ => rfl)
    have loop : ∀ (m n : Nat), n + m = (w 0 2).toNat → P 35 [(0, vR (some 166)), (1, vI (w 0 2)), (2, vI (su (fun c => if w 2 c = -1 then 1 else 0) n)), (3, vI (n : Int))] [] g (up2 (up2 (up2 σ 166 8 (-1)) 166 9 (-1)) 166 10 (-1)) 0 0 := by
      intro m
      induction m with
      | zero =>
        intro n hn
        refine kk_X6_seeks_35 hP _ _ _ hG ⟨rO (by omega) (by omega), rO (by omega) (by omega), fun _ => ?_, fun h => absurd (by omega) h⟩
        rw [show n = (w 0 2).toNat by omega]
        rw [hN] at h73
        exact h73
      | succ m ih =>
        intro n hn
        have hi := ih (n + 1) (by omega)
        rw [su] at hi
        have hp := c_mP (d := d + 4) (r := 52) (c := n) hG (σ := up2 (up2 (up2 σ 166 8 (-1)) 166 9 (-1)) 166 10 (-1)) (T := T) (by rw [hv1]; exact hw) (by omega) (by decide) (by omega)
        rw [hv1] at hp
        refine kk_X6_seeks_35 hP _ _ _ hG ⟨rO (by omega) (by omega), rO (by omega) (by omega), fun h => absurd h (by omega), fun _ => ⟨_, hp, b2_iR _, fun h => ?_, fun h => ?_⟩⟩
        · rw [if_pos (Decidable.not_not.mp (b2_0 h))] at hi
          exact hi
        · rw [if_neg (b2_1 h)] at hi
          exact hi
    exact loop (w 0 2).toNat 0 (by omega)
  · exact ((((Fk.up (a := 166) (i := 8) (by omega)).tr (Fk.up (a := 166) (i := 9) (by omega))).tr (Fk.up (a := 166) (i := 10) (by omega))).tr (Fk.up (a := 173) (by omega))).tr r4
/-- the best of all orders -/
def bst (w : Wl) : Bs := exG (un w).toNat w (fun _ => 0) 0 none
theorem c_finds {σ : pM} (hG : gAll g) (hw : wOK T (mv σ 0)) (h200 : 200 ≤ T) (hT : T ≤ 89000) : ∃ σ2, Ca (d + 7) yX6_finds [vR (some 166)] g σ [] g σ2 ∧ mB2 σ2 (un (mv σ 0)).toNat (bst (mv σ 0)) ∧ Fk σ σ2 := by
  obtain ⟨s1, p1, p2, p3, -⟩ := c_mcopy (d := d + 5) (σ := σ) (p := 0) (q := 52) hG (by decide) (by decide) (by decide)
  have hub := un_bd hw
  obtain ⟨s2, q1, q2, q3, q4⟩ := c_seeks (d := d) (N := (un (mv σ 0)).toNat) hG p2 hw h200 hT (by omega) (fun _ => 0)
  exact ⟨s2, ca_in cd_X6_finds bd_X6_finds rfl (by decide) (Nat.le_of_ble_eq_true rfl) (fun Q P hP hQ => k_X6_finds_0 hP hG ⟨_, p1, _, q1, hQ⟩), q3, (Fk.m p3).tr q4⟩
end M5
