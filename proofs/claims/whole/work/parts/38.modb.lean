/-! The model's rows, two -/
section M2
variable {d : Nat} {g : pG} {σ : pM} {r : Nat} {T : Int}
/-- nothing changes but the row at r -/
def Fm (r : Nat) (σ σ2 : pM) : Prop := (∀ x, x ≠ 167 → σ2 x = σ x) ∧ ∀ i, (i < r ∨ r + 52 ≤ i) → σ2 167 i = σ 167 i
theorem Fm.rf : Fm r σ σ := ⟨fun _ _ => rfl, fun _ _ => rfl⟩
theorem Fm.tr {σ2 σ3 : pM} (h : Fm r σ σ2) (h2 : Fm r σ2 σ3) : Fm r σ σ3 := ⟨fun x hx => (h2.1 x hx).trans (h.1 x hx), fun i hi => (h2.2 i hi).trans (h.2 i hi)⟩
theorem Fm.up {i : Nat} {v : Int} (hi : r ≤ i ∧ i < r + 52) : Fm r σ (up2 σ 167 i v) := ⟨fun x hx => up2_ne hx, fun j hj => by
  have : ¬ j = i := by omega
  simp [up2, this]⟩
theorem mv_up {f j : Nat} {v : Int} (h1 : 1 ≤ f) (h2 : f ≤ 5) (hj : j < 9) : mv (up2 σ 167 (r + mF f + j) v) r = up2 (mv σ r) f j v := by
  have inj : ∀ a b, 1 ≤ a → a ≤ 5 → b < 9 → (r + mF a + b = r + mF f + j ↔ a = f ∧ b = j) := by
    intro a b h3 h4 hb
    unfold mF
    (repeat' split) <;> omega
  have lo : ∀ k, k < 7 → (up2 σ 167 (r + mF f + j) v) 167 (r + k) = σ 167 (r + k) := by
    intro k hk
    have : ¬ r + k = r + mF f + j := by
      unfold mF
      (repeat' split) <;> omega
    simp only [up2, this, if_true, if_false]
  have lo0 := lo 0 (by decide)
  rw [Nat.add_zero] at lo0
  funext a b
  by_cases ha : a = 0
  · subst ha
    have hf : ¬ 0 = f := by omega
    have e : up2 (mv σ r) f j v 0 b = mv σ r 0 b := by simp [up2, hf]
    rw [e]
    unfold mv
    simp only [if_true, lo0, lo 1 (by decide), lo 2 (by decide), lo 3 (by decide), lo 4 (by decide), lo 5 (by decide), lo 6 (by decide)]
  · by_cases hv : 1 ≤ a ∧ a ≤ 5 ∧ b < 9
    · have hi := inj a b hv.1 hv.2.1 hv.2.2
      have e1 : mv (up2 σ 167 (r + mF f + j) v) r a b = (up2 σ 167 (r + mF f + j) v) 167 (r + mF a + b) := by simp [mv, ha, hv]
      have e2 : mv σ r a b = σ 167 (r + mF a + b) := by simp [mv, ha, hv]
      rw [e1]
      unfold up2
      by_cases hab : a = f ∧ b = j
      · rw [if_pos rfl, if_pos (hi.mpr hab), if_pos hab.1, if_pos hab.2]
      · rw [if_pos rfl, if_neg (fun q => hab (hi.mp q))]
        split
        · split
          · rename_i q1 q2; exact absurd ⟨q1, q2⟩ hab
          · exact e2.symm
        · exact e2.symm
    · have e1 : mv (up2 σ 167 (r + mF f + j) v) r a b = 0 := by simp [mv, ha, hv]
      have e2 : mv σ r a b = 0 := by simp [mv, ha, hv]
      rw [e1]
      unfold up2
      split
      · split
        · omega
        · exact e2.symm
      · exact e2.symm
theorem mv_up0 {i j : Nat} {v : Int} (hij : (i = 2 ∧ j = 3) ∨ (i = 3 ∧ j = 7) ∨ (i = 4 ∧ j = 4) ∨ (i = 5 ∧ j = 5) ∨ (i = 6 ∧ j = 6)) : mv (up2 σ 167 (r + i) v) r = up2 (mv σ r) 0 j v := by
  have hi : ∀ a b, 1 ≤ a → a ≤ 5 → b < 9 → ¬ r + mF a + b = r + i := by
    intro a b h3 h4 hb
    unfold mF
    (repeat' split) <;> omega
  funext a b
  by_cases ha : a = 0
  · subst ha
    unfold mv up2
    rcases hij with ⟨rfl, rfl⟩ | ⟨rfl, rfl⟩ | ⟨rfl, rfl⟩ | ⟨rfl, rfl⟩ | ⟨rfl, rfl⟩ <;> simp <;> (repeat' split) <;> simp_all
  · have e : up2 (mv σ r) 0 j v a b = mv σ r a b := by simp [up2, ha]
    rw [e]
    unfold mv
    rw [if_neg ha, if_neg ha]
    split
    · rename_i hv
      have := hi a b hv.1 hv.2.1 hv.2.2
      simp [up2, this]
    · rfl
theorem mv_cong {σ2 : pM} {p q : Nat} (h : ∀ i, i < 52 → σ2 167 (q + i) = σ 167 (p + i)) : mv σ2 q = mv σ p := by
  have h0 := h 0 (by decide)
  rw [Nat.add_zero, Nat.add_zero] at h0
  funext a b
  unfold mv
  rw [h0, h 1 (by decide), h 2 (by decide), h 3 (by decide), h 4 (by decide), h 5 (by decide), h 6 (by decide)]
  by_cases ha : a = 0
  · rw [if_pos ha, if_pos ha]
  · rw [if_neg ha, if_neg ha]
    split
    · rename_i hv
      have : mF a + b < 52 := by unfold mF; (repeat' split) <;> omega
      rw [Nat.add_assoc, Nat.add_assoc, h _ this]
    · rfl
theorem c_mbeg {c : Nat} (hG : gAll g) (hw : wOK T (mv σ r)) (hT : T ≤ 90000) (hr : r + 52 ≤ 1300) (hc : (c : Int) < mv σ r 0 2) : Ca (d + 3) yX6_beginOf [vR (some 166), vI (r : Int), vI (c : Int)] g σ [vI (stt (mv σ r) c)] g σ := by
  refine ca_in cd_X6_beginOf bd_X6_beginOf rfl (by decide) (Nat.le_of_ble_eq_true rfl) (fun Q P hP hQ => ?_)
  have hcl := hw.cells
  have h9 : c < 9 := by omega
  have hst := hw.st
  have hnd := hw.nd h9
  have hu := used_bd hw
  have htm := hw.tm
  have hnt := hw.nt
  have hbt := bro_bd hw (mv σ r 0 3)
  have e37 : mv σ r 0 7 = σ 167 (r + 3) := m_nt
  have e0 : ((r : Int) + 0).toNat = r := by omega
  have e2 : ((r : Int) + 2).toNat = r + 2 := by omega
  have e3 : ((r : Int) + 3).toNat = r + 3 := by omega
  have e25 : ((r : Int) + 25 + (c : Int)).toNat = r + 25 + c := by omega
  have eq := begin_eq hw (n := used (mv σ r) + mv σ r 1 c) (by omega)
  -- the loop
  have loop : ∀ (n : Int), iR n → (∀ v : Int, v = (if mB (mv σ r) n (mv σ r 0 7).toNat = 99999 then -1 else mB (mv σ r) n (mv σ r 0 7).toNat) → Q [vI v] g σ) → ∀ (m k : Nat), (k : Int) + m = mv σ r 0 7 → P 106 [(0, vR (some 166)), (1, vI (r : Int)), (4, vI n), (5, vI (mB (mv σ r) n k)), (6, vI (k : Int))] [] g σ 0 0 := by
    intro n hn hq m
    have mbd : ∀ k, k ≤ 9 → 0 ≤ mB (mv σ r) n k ∧ mB (mv σ r) n k ≤ 99999 ∧ mv σ r 0 3 < mB (mv σ r) n k := by
      intro k hk
      rcases mB_in (mv σ r) n k with h | ⟨j, h1, h2, h3, h4⟩
      · rw [h]; omega
      · have := hw.tr (k := j) (by omega)
        rw [h2]; omega
    induction m with
    | zero =>
      intro k hk
      have hb := mbd k (by omega)
      rw [show (mv σ r 0 7).toNat = k by omega] at hq
      refine k_X6_beginOf_106 hP _ _ _ _ hG ?_
      rw [e2, e3]
      refine ⟨⟨by omega, by omega⟩, rO (by omega) (by omega), rO (by omega) (by omega), fun _ => ⟨rO (by omega) (by omega), fun h => ?_, fun h => ?_⟩, fun h => absurd (by omega) h⟩
      · exact hq _ (by rw [if_neg h])
      · exact hq _ (by rw [if_pos (Decidable.not_not.mp h)])
    | succ m ih =>
      intro k hk
      have hb := mbd k (by omega)
      have hk9 : k < 9 := by omega
      have hi := ih (k + 1) (by omega)
      have htr := hw.tr hk9
      have hbr := bro_bd hw (mv σ r 4 k)
      rw [mB] at hi
      refine k_X6_beginOf_106 hP _ _ _ _ hG ?_
      rw [e2, e3, show ((r : Int) + 7 + (k : Int)).toNat = r + 7 + k by omega, ← m_tt (σ := σ) (r := r) hk9, ← m_tm (σ := σ) (r := r)]
      refine ⟨⟨by omega, by omega⟩, rO (by omega) (by omega), rO (by omega) (by omega), fun h => absurd h (by omega), fun _ => ⟨⟨by omega, by omega⟩, rO (by omega) (by omega), rO (by omega) (by omega), fun h => absurd h (by omega), fun _ => ⟨⟨by omega, by omega⟩, ⟨by omega, by omega⟩, rO (by omega) (by omega), rO (by omega) (by omega), fun h1 => ?_, fun h1 => ⟨rO (by omega) (by omega), rO (by omega) (by omega), fun h2 => ?_, fun h2 => ⟨_, c_mbro (d := d + 1) hG hw hr (rO (by omega) (by omega)), rO (by omega) (by omega), hn, fun h3 => ?_, fun h3 => ?_⟩⟩⟩⟩⟩
      · rw [if_neg (by omega)] at hi; exact hi
      · rw [if_neg (by omega)] at hi; exact hi
      · rw [if_neg (by omega)] at hi; exact hi
      · rw [if_pos ⟨by omega, by omega, by omega⟩] at hi; exact hi
  have fin : ∀ (h : (c : Int) < mv σ r 0 2 ∧ mv σ r 2 c = -1 ∧ (mv σ r 0 0 ≤ (c : Int) → ¬ mv σ r 2 (c - (mv σ r 0 0).toNat) = -1)), ∃ (v2 : Int), Ca (d + 2) yX6_used [vR (some 166), vI (r : Int)] g σ [vI v2] g σ ∧ (0 ≤ (((r : Int) + 25) + (c : Int)) ∧ (((r : Int) + 25) + (c : Int)) < 1300) ∧ (0 ≤ ((r : Int) + 2) ∧ ((r : Int) + 2) < 1300) ∧ ∃ (v3 : Int), Ca (d + 2) yX6_brought [vR (some 166), vI (r : Int), vI (σ 167 (r + 2))] g σ [vI v3] g σ ∧ iR v3 ∧ iR (v2 + (σ 167 (r + 25 + c))) ∧ (v3 < (v2 + (σ 167 (r + 25 + c))) → P 106 [(0, vR (some 166)), (1, vI (r : Int)), (4, vI (v2 + (σ 167 (r + 25 + c)))), (5, vI 99999), (6, vI 0)] [] g σ 0 0) ∧ (¬ (v3 < (v2 + (σ 167 (r + 25 + c)))) → (0 ≤ ((r : Int) + 2) ∧ ((r : Int) + 2) < 1300) ∧ P 106 [(0, vR (some 166)), (1, vI (r : Int)), (4, vI (v2 + (σ 167 (r + 25 + c)))), (5, vI (σ 167 (r + 2))), (6, vI 0)] [] g σ 0 0) := by
    intro h
    rw [stt, if_pos h, eq] at hQ
    rw [← m_nd (σ := σ) (r := r) h9, ← m_tm (σ := σ) (r := r)]
    refine ⟨_, c_mused (d := d) hG hw (by omega) hr, ⟨by omega, by omega⟩, ⟨by omega, by omega⟩, _, c_mbro (d := d + 1) hG hw hr (rO (by omega) (by omega)), rO (by omega) (by omega), rO (by omega) (by omega), fun h1 => ?_, fun h1 => ⟨⟨by omega, by omega⟩, ?_⟩⟩
    · rw [if_neg (by omega)] at hQ
      exact loop _ (rO (by omega) (by omega)) (fun v hv => by rw [hv]; exact hQ) (mv σ r 0 7).toNat 0 (by omega)
    · rw [if_pos (by omega)] at hQ
      refine k_X6_beginOf_106 hP _ _ _ _ hG ?_
      rw [e2, e3]
      have hnt2 := hnt
      rw [m_nt] at hnt2
      rw [← m_tm (σ := σ) (r := r)]
      refine ⟨⟨by omega, by omega⟩, by decide, rO (by omega) (by omega), fun _ => ⟨rO (by omega) (by omega), fun _ => hQ, fun h => absurd (by omega) h⟩, fun _ => ⟨⟨by omega, by omega⟩, rO (by omega) (by omega), rO (by omega) (by omega), fun _ => ⟨rO (by omega) (by omega), fun _ => hQ, fun h => absurd (by omega) h⟩, fun h => absurd (Int.le_refl _) h⟩⟩
  have no : ¬ ((c : Int) < mv σ r 0 2 ∧ mv σ r 2 c = -1 ∧ (mv σ r 0 0 ≤ (c : Int) → ¬ mv σ r 2 (c - (mv σ r 0 0).toNat) = -1)) → Q [vI (-1)] g σ := by
    intro h
    rw [stt, if_neg h] at hQ
    exact hQ
  refine k_X6_beginOf_0 hP _ _ hG ⟨_, c_mP (d := d + 1) hG hw (by omega) hr h9, b2_iR _, fun h => no (fun q => b2_1 h q.2.1), fun h => ?_⟩
  have h4 := Decidable.not_not.mp (b2_0 (Decidable.not_not.mp h))
  rw [e0, e2, e25]
  rw [m_st] at hst
  refine ⟨⟨by omega, by omega⟩, rO (by omega) (by omega), rO (by omega) (by omega), fun h1 => ?_, fun h1 => ⟨⟨by omega, by omega⟩, ?_⟩⟩
  · exact fin ⟨hc, h4, fun q => by rw [m_st] at q; omega⟩
  · have ec : (c : Int) - σ 167 r = ((c - (mv σ r 0 0).toNat : Nat) : Int) := by rw [m_st]; omega
    rw [ec]
    refine ⟨_, c_mP (d := d + 1) hG hw (by omega) hr (by omega), b2_iR _, fun h5 => ?_, fun h5 => ?_⟩
    · exact no (fun q => q.2.2 (by rw [m_st]; omega) (Decidable.not_not.mp (b2_0 h5)))
    · exact fin ⟨hc, h4, fun _ => b2_1 h5⟩
theorem c_mpours {c : Nat} (hG : gAll g) (hw : wOK T (mv σ r)) (hT : T ≤ 90000) (hr : r + 52 ≤ 1300) (hc : (c : Int) < mv σ r 0 2) : ∃ σ2, Ca (d + 4) yX6_pours [vR (some 166), vI (r : Int), vI (c : Int)] g σ [vI (b2 (¬ stt (mv σ r) c = -1))] g σ2 ∧ mv σ2 r = fil (mv σ r) c ∧ Fm r σ σ2 := by
  have hcl := hw.cells
  have h9 : c < 9 := by omega
  have hs := stt_bd hw (by have := hw.tm; omega) c
  have e34 : ((r : Int) + 34 + (c : Int)).toNat = r + 34 + c := by omega
  have e43 : ((r : Int) + 43 + (c : Int)).toNat = r + 43 + c := by omega
  have e25 : ((r : Int) + 25 + (c : Int)).toNat = r + 25 + c := by omega
  have e2 : ((r : Int) + 2).toNat = r + 2 := by omega
  by_cases h : stt (mv σ r) c = -1
  · refine ⟨σ, ca_in cd_X6_pours bd_X6_pours rfl (by decide) (Nat.le_of_ble_eq_true rfl) (fun Q P hP hQ => k_X6_pours_0 hP _ _ hG ⟨_, c_mbeg (d := d) hG hw hT hr hc, rO (by omega) (by omega), fun q => absurd h q, fun _ => ?_⟩), ?_, Fm.rf⟩
    · rwa [b2_f (fun q => q h)] at hQ
    · rw [fil, if_pos h]
  · refine ⟨up2 (up2 (up2 σ 167 (r + 34 + c) (stt (mv σ r) c)) 167 (r + 43 + c) (stt (mv σ r) c + σ 167 (r + 25 + c))) 167 (r + 2) (stt (mv σ r) c + σ 167 (r + 25 + c)), ca_in cd_X6_pours bd_X6_pours rfl (by decide) (Nat.le_of_ble_eq_true rfl) (fun Q P hP hQ => k_X6_pours_0 hP _ _ hG ⟨_, c_mbeg (d := d) hG hw hT hr hc, rO (by omega) (by omega), fun _ => ⟨⟨by omega, by omega⟩, ⟨by omega, by omega⟩, ⟨by omega, by omega⟩, ⟨by omega, by omega⟩, ⟨by omega, by omega⟩, ?_⟩, fun q => absurd h q⟩), ?_, ?_⟩
    · rw [e34, e43, e25, e2]
      have x1 : (up2 σ 167 (r + 34 + c) (stt (mv σ r) c)) 167 (r + 25 + c) = σ 167 (r + 25 + c) := by
        have : ¬ r + 25 + c = r + 34 + c := by omega
        simp [up2, this]
      have x2 : (up2 (up2 σ 167 (r + 34 + c) (stt (mv σ r) c)) 167 (r + 43 + c) (stt (mv σ r) c + σ 167 (r + 25 + c))) 167 (r + 43 + c) = stt (mv σ r) c + σ 167 (r + 25 + c) := by simp [up2]
      rw [x1, x2]
      rwa [b2_t h] at hQ
    · rw [fil, if_neg h, mv_up0 (Or.inl ⟨rfl, rfl⟩)]
      have u3 := mv_up (σ := up2 σ 167 (r + 34 + c) (stt (mv σ r) c)) (r := r) (f := 3) (j := c) (v := stt (mv σ r) c + σ 167 (r + 25 + c)) (by decide) (by decide) h9
      have u2 := mv_up (σ := σ) (r := r) (f := 2) (j := c) (v := stt (mv σ r) c) (by decide) (by decide) h9
      rw [show r + mF 3 + c = r + 43 + c from rfl] at u3
      rw [show r + mF 2 + c = r + 34 + c from rfl] at u2
      rw [u3, u2, m_nd h9]
    · exact ((Fm.up (by omega)).tr (Fm.up (by omega))).tr (Fm.up (by omega))
/-- a row is copied, as far as n -/
def cM (σ : pM) (p q n : Nat) : pM := fun a i => if a = 167 ∧ q ≤ i ∧ i < q + n then σ 167 (p + (i - q)) else σ a i
theorem cM_s (σ : pM) {p q n : Nat} (hd : p + 52 ≤ q ∨ q + 52 ≤ p) (hn : n < 52) : up2 (cM σ p q n) 167 (q + n) ((cM σ p q n) 167 (p + n)) = cM σ p q (n + 1) := by
  have e : (cM σ p q n) 167 (p + n) = σ 167 (p + n) := by
    unfold cM
    rw [if_neg (by omega)]
  rw [e]
  funext a i
  unfold up2 cM
  by_cases ha : a = 167
  · subst ha
    by_cases hi : i = q + n
    · subst hi
      rw [if_pos rfl, if_pos rfl, if_pos ⟨rfl, by omega, by omega⟩]
      congr 1
      omega
    · rw [if_pos rfl, if_neg hi]
      by_cases h2 : q ≤ i ∧ i < q + n
      · rw [if_pos ⟨rfl, h2⟩, if_pos ⟨rfl, by omega, by omega⟩]
      · rw [if_neg (fun z => h2 z.2), if_neg (fun z => by omega)]
  · simp [ha]
theorem c_mcopy {p q : Nat} (hG : gAll g) (hp : p + 52 ≤ 1300) (hq : q + 52 ≤ 1300) (hd : p + 52 ≤ q ∨ q + 52 ≤ p) : ∃ σ2, Ca (d + 1) yX6_copy [vR (some 166), vI (p : Int), vI (q : Int)] g σ [] g σ2 ∧ mv σ2 q = mv σ p ∧ Fm q σ σ2 ∧ (∀ i, i < 52 → σ2 167 (q + i) = σ 167 (p + i)) := by
  have raw : ∀ i, i < 52 → cM σ p q 52 167 (q + i) = σ 167 (p + i) := fun i hi => by
    unfold cM
    rw [if_pos ⟨rfl, by omega, by omega⟩]
    congr 1
    omega
  refine ⟨cM σ p q 52, ca_in cd_X6_copy bd_X6_copy rfl (by decide) (Nat.le_of_ble_eq_true rfl) (fun Q P hP hQ => ?_), mv_cong raw, ⟨fun x hx => ?_, fun i hi => ?_⟩, raw⟩
  · refine k_X6_copy_0 hP _ _ hG ?_
    have loop : ∀ (m n : Nat), n + m = 52 → P 2 [(0, vR (some 166)), (1, vI (p : Int)), (2, vI (q : Int)), (3, vI (n : Int))] [] g (cM σ p q n) 0 0 := by
      intro m
      induction m with
      | zero =>
        intro n hn
        refine k_X6_copy_2 hP _ _ _ hG ⟨rO (by omega) (by omega), fun _ => ?_, fun h => absurd (by omega) h⟩
        rw [show n = 52 by omega]
        exact hQ
      | succ m ih =>
        intro n hn
        have hi := ih (n + 1) (by omega)
        refine k_X6_copy_2 hP _ _ _ hG ⟨rO (by omega) (by omega), fun h => absurd h (by omega), fun _ => ⟨⟨by omega, by omega⟩, ⟨by omega, by omega⟩, ?_⟩⟩
        rw [show ((q : Int) + (n : Int)).toNat = q + n by omega, show ((p : Int) + (n : Int)).toNat = p + n by omega, cM_s σ hd (by omega)]
        exact hi
    have h := loop 52 0 rfl
    have e0 : cM σ p q 0 = σ := by
      funext a i
      unfold cM
      rw [if_neg (by omega)]
    rw [e0] at h
    exact h
  · funext j
    simp [cM, hx]
  · unfold cM
    rw [if_neg (by omega)]
end M2
