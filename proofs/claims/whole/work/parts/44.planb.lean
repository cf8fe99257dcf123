/-! The plan: the bounds grow along an order, and are exact at its end (pure) -/
section P2
variable {T : Int} {w : Wl} {c : Nat}
/-- one walk up a strip lies below another -/
def hR (x : Int) (q r : Int × Int × Int) : Prop := q.1 ≤ x + r.1 ∧ q.2.1 ≤ r.2.1 ∧ q.2.2 ≤ r.2.2
theorem hR_step (hw : wOK T w) (hT : T ≤ 90000) (h0 : 0 ≤ T) (h : ¬ stt w c = -1) {x : Int} {q r : Int × Int × Int} {k : Nat} (hk : k ≠ c) (hR1 : hR x q r) : hR x (htS w k q) (htS (fil w c) k r) := by
  obtain ⟨h1, h2, h3⟩ := hR1
  unfold htS
  rw [fil_2k hk]
  split
  · have ha : arr w (q.2.2 + w 1 k) ≤ arr (fil w c) (r.2.2 + w 1 k) := by rw [fil_arr]; exact arr_mono hw (by omega)
    have hm := hC_mono (w2 := fil w c) hw (fun j hj => fil_n hj) (fil_dn hw hT h0 h) (show max q.2.1 (arr w (q.2.2 + w 1 k)) ≤ max r.2.1 (arr (fil w c) (r.2.2 + w 1 k)) by omega) k
    rw [fil_r (by decide) (by decide) (by decide)]
    exact ⟨by show q.1 + _ ≤ x + (r.1 + _); omega, by show max _ _ + _ ≤ max _ _ + _; omega, by show q.2.2 + _ ≤ r.2.2 + _; omega⟩
  · exact ⟨h1, h2, h3⟩
theorem mul_lt_p {l l0 s p p0 : Nat} (h : l * s + p = l0 * s + p0) (hp : p < s) (hp0 : p0 < s) : l = l0 ∧ p = p0 := by
  have h1 : (l * s + p) % s = p := by rw [Nat.add_comm, Nat.add_mul_mod_self_right]; exact Nat.mod_eq_of_lt hp
  have h2 : (l0 * s + p0) % s = p0 := by rw [Nat.add_comm, Nat.add_mul_mod_self_right]; exact Nat.mod_eq_of_lt hp0
  have h3 : p = p0 := by rw [← h1, h, h2]
  refine ⟨?_, h3⟩
  have h4 : l * s = l0 * s := by omega
  exact Nat.eq_of_mul_eq_mul_right (by omega) h4
theorem strip_cell (hw : wOK T w) {l p : Nat} (hl : (l : Int) < w 0 1) (hp : (p : Int) < w 0 0) : ((l * (w 0 0).toNat + p : Nat) : Int) < w 0 2 := by
  obtain ⟨a1, a2, a3, -⟩ := hw
  rw [a3]
  rcases (show w 0 0 = 1 ∨ w 0 0 = 2 ∨ w 0 0 = 3 by omega) with e | e | e <;> rcases (show w 0 1 = 1 ∨ w 0 1 = 2 ∨ w 0 1 = 3 by omega) with f | f | f <;> rw [e] at hp ⊢ <;> rw [f] at hl ⊢ <;> simp <;> omega
theorem cell_strip (hw : wOK T w) (hc : (c : Int) < w 0 2) : ∃ l p : Nat, (l : Int) < w 0 1 ∧ (p : Int) < w 0 0 ∧ c = l * (w 0 0).toNat + p := by
  obtain ⟨a1, a2, a3, -⟩ := hw
  rw [a3] at hc
  refine ⟨c / (w 0 0).toNat, c % (w 0 0).toNat, ?_, ?_, ?_⟩
  · rcases (show w 0 0 = 1 ∨ w 0 0 = 2 ∨ w 0 0 = 3 by omega) with e | e | e <;> rcases (show w 0 1 = 1 ∨ w 0 1 = 2 ∨ w 0 1 = 3 by omega) with f | f | f <;> rw [e, f] at hc <;> rw [e, f] <;> simp at hc ⊢ <;> omega
  · have := Nat.mod_lt c (show 0 < (w 0 0).toNat by omega)
    omega
  · have := Nat.div_add_mod c (w 0 0).toNat
    rw [Nat.mul_comm] at this
    omega
theorem hts_other (hw : wOK T w) (hT : T ≤ 90000) (h0 : 0 ≤ T) (h : ¬ stt w c = -1) {l0 p0 : Nat} (ec : c = l0 * (w 0 0).toNat + p0) (hp0 : (p0 : Int) < w 0 0) {p : Nat} (hp : (p : Int) < w 0 0) (hne : p ≠ p0) {t u t2 u2 : Int} (ht : t ≤ t2) (hu : u ≤ u2) : ∀ l : Nat, hR 0 (hts w t u p l) (hts (fil w c) t2 u2 p l)
  | 0 => ⟨by show (0 : Int) ≤ 0 + 0; omega, ht, hu⟩
  | l + 1 => by
    have ih := hts_other hw hT h0 h ec hp0 hp hne ht hu l
    rw [hts, hts, fil_n (by decide)]
    refine hR_step hw hT h0 h (fun z => ?_) ih
    rw [ec] at z
    exact hne (mul_lt_p z (by omega) (by omega)).2
theorem hts_poured {t u : Int} {p : Nat} : ∀ l : Nat, (∀ i, i < l → ¬ w 2 (i * (w 0 0).toNat + p) = -1) → hts w t u p l = (0, t, u)
  | 0, _ => rfl
  | l + 1, h => by
    rw [hts, hts_poured l (fun i hi => h i (by omega)), htS, if_neg (h l (by omega))]
theorem below (hw : wOK T w) (hs : wS w) {p : Nat} : ∀ l : Nat, ((l * (w 0 0).toNat + p : Nat) : Int) < w 0 2 → ¬ w 2 (l * (w 0 0).toNat + p) = -1 → ∀ i, i ≤ l → ¬ w 2 (i * (w 0 0).toNat + p) = -1
  | 0, _, h, i, hi => by
    rw [show i = 0 by omega]; exact h
  | l + 1, hc, h, i, hi => by
    by_cases hil : i = l + 1
    · rw [hil]; exact h
    · have hst := hw.st
      have hcl := hw.cells
      have e : (l + 1) * (w 0 0).toNat + p = l * (w 0 0).toNat + p + (w 0 0).toNat := by rw [Nat.succ_mul]; omega
      have h1 := hs ((l + 1) * (w 0 0).toNat + p) (by omega) h (by omega)
      rw [show (l + 1) * (w 0 0).toNat + p - (w 0 0).toNat = l * (w 0 0).toNat + p by omega] at h1
      exact below hw hs l (by omega) h1 i (by omega)
theorem hts_same (hw : wOK T w) (hs : wS w) (hT : T ≤ 90000) (h0 : 0 ≤ T) (h : ¬ stt w c = -1) {l0 p0 : Nat} (ec : c = l0 * (w 0 0).toNat + p0) (hp0 : (p0 : Int) < w 0 0) : ∀ l : Nat, l0 < l → hR (hC w c (stt w c)) (hts w (w 0 3) (used w) p0 l) (hts (fil w c) (fil w c 0 3) (used (fil w c)) p0 l)
  | 0, hl => by omega
  | l + 1, hl => by
    obtain ⟨⟨c1, c2, c3⟩, c4, c5⟩ := stt_can h
    have hst := hw.st
    by_cases hll : l = l0
    · subst hll
      have bel : ∀ i, i < l → ¬ w 2 (i * (w 0 0).toNat + p0) = -1 := by
        intro i hi
        have e : c = (l - 1) * (w 0 0).toNat + p0 + (w 0 0).toNat := by
          rw [ec]
          have : l = (l - 1) + 1 := by omega
          rw [this, Nat.succ_mul]
          simp
          omega
        have h1 := c3 (by omega)
        rw [show c - (w 0 0).toNat = (l - 1) * (w 0 0).toNat + p0 by omega] at h1
        exact below hw hs (l - 1) (by omega) h1 i (by omega)
      rw [hts, hts, hts_poured l bel, fil_n (by decide), hts_poured (w := fil w c) l (fun i hi => by
        rw [fil_n (by decide)]
        by_cases hic : i * (w 0 0).toNat + p0 = c
        · rw [hic, fil_2c h]; exact h
        · rw [fil_2k hic]; exact bel i hi), ← ec]
      have e1 : htS (fil w c) c (0, fil w c 0 3, used (fil w c)) = (0, fil w c 0 3, used (fil w c)) := by
        rw [htS, fil_2c h, if_neg h]
      rw [e1, htS, if_pos c2, fil_t h, fil_used hw h0 h, stt_arr hw h]
      exact ⟨by show 0 + hC w c (max (w 0 3) (arr w (used w + w 1 c))) ≤ hC w c (max (w 0 3) (arr w (used w + w 1 c))) + 0; omega, Int.le_refl _, Int.le_refl _⟩
    · have ih := hts_same hw hs hT h0 h ec hp0 l (by omega)
      rw [hts, hts, fil_n (by decide)]
      refine hR_step hw hT h0 h (fun z => ?_) ih
      rw [ec] at z
      exact hll (mul_lt_p z (by omega) (by omega)).1
theorem lbH_mono (hw : wOK T w) (hs : wS w) (hT : T ≤ 90000) (h0 : 0 ≤ T) (h : ¬ stt w c = -1) : lbH w ≤ lbH (fil w c) := by
  obtain ⟨⟨c1, c2, c3⟩, c4, c5⟩ := stt_can h
  obtain ⟨l0, p0, hl0, hp0, ec⟩ := cell_strip hw c1
  have hst := hw.st
  have hnd := hw.nd (k := c) (by have := hw.cells; omega)
  unfold lbH
  rw [fil_hcv hw hT h0 h]
  have : htc w (w 0 3) (used w) ≤ hC w c (stt w c) + htc (fil w c) (fil w c 0 3) (used (fil w c)) := by
    unfold htc
    rw [fil_n (show (1 : Nat) ≠ 3 by decide), fil_n (show (0 : Nat) ≠ 3 by decide)]
    refine su_le1 (c := p0) _ (by omega) (fun k hk hkc => ?_) ?_
    · have := hts_other hw hT h0 h ec hp0 (p := k) (by omega) hkc (t := w 0 3) (u := used w) (t2 := fil w c 0 3) (u2 := used (fil w c)) (by rw [fil_t h]; omega) (by rw [fil_used hw h0 h]; omega) (w 0 1).toNat
      have := this.1
      omega
    · exact (hts_same hw hs hT h0 h ec hp0 (w 0 1).toNat (by omega)).1
  omega
theorem lsn_bd (hw : wOK T w) : ∀ n : Nat, n ≤ 9 → 1 ≤ lsn w n ∧ lsn w n ≤ 3
  | 0, _ => by simp [lsn]
  | n + 1, h => by
    have := lsn_bd hw n (by omega)
    have := hw.nd (k := n) (by omega)
    unfold lsn
    split <;> omega
theorem lsn_le (k : Nat) (hk : ¬ (k : Int) + w 0 0 < w 0 2) : ∀ n : Nat, k < n → lsn w n ≤ w 1 k
  | 0, h => by omega
  | n + 1, h => by
    unfold lsn
    by_cases hkn : k = n
    · subst hkn
      rw [if_neg hk]
      omega
    · have := lsn_le k hk n (by omega)
      split <;> omega
theorem lsn_cong {w2 : Wl} (h0 : w2 0 0 = w 0 0) (h2 : w2 0 2 = w 0 2) (h1 : w2 1 = w 1) : ∀ n, lsn w2 n = lsn w n
  | 0 => rfl
  | n + 1 => by rw [lsn, lsn, h0, h2, h1, lsn_cong h0 h2 h1 n]
theorem lbE_mono (hw : wOK T w) (hs : wS w) (h0 : 0 ≤ T) (h : ¬ stt w c = -1) : lbE w ≤ lbE (fil w c) := by
  obtain ⟨⟨c1, c2, c3⟩, c4, c5⟩ := stt_can h
  have hcl := hw.cells
  have hst := hw.st
  have hua := used_all hw c1 c2
  have hnd := hw.nd (k := c) (by omega)
  have ea := stt_arr hw h
  unfold lbE
  rw [fil_allN, fil_used hw h0 h, fil_t h, fil_arr, fil_n (by decide), lsn_cong (w2 := fil w c) (w := w) (fil_n (by decide)) (fil_n (by decide)) (fil_r (by decide) (by decide) (by decide)), if_neg (by omega)]
  split
  · rename_i hz
    -- the last cell: it lies on top
    have htop : ¬ (c : Int) + w 0 0 < w 0 2 := by
      intro q
      have hup : w 2 (c + (w 0 0).toNat) = -1 := Classical.byContradiction fun z => by
        have := hs (c + (w 0 0).toNat) (by omega) z (by omega)
        rw [Nat.add_sub_cancel] at this
        exact this c2
      have hdn : fil w c 2 (c + (w 0 0).toNat) = -1 := by rw [fil_2k (by omega)]; exact hup
      have hk := hw.nd (k := c + (w 0 0).toNat) (by omega)
      have e := su_one (f := fU w) (g := fun k => if k = c then w 1 c else fU w k) (c := c) (x := w 1 c) (n := (w 0 2).toNat) (by omega) (fun k _ hkc => if_neg hkc) (by rw [if_pos rfl, fU, if_pos c2]; omega)
      have e2 := su_le1 (f := fun k => if k = c + (w 0 0).toNat then w 1 k else if k = c then w 1 c else fU w k) (g := fun k => w 1 k) (c := c) (x := 0) (w 0 2).toNat (by omega) (fun k hk hkc => by
        have := hw.nd (k := k) (by omega)
        rw [if_neg hkc]
        unfold fU
        split
        · omega
        · split <;> omega) (by
        rw [if_neg (by omega), if_pos rfl]
        omega)
      have e3 := su_one (f := fun k => if k = c then w 1 c else fU w k) (g := fun k => if k = c + (w 0 0).toNat then w 1 k else if k = c then w 1 c else fU w k) (c := c + (w 0 0).toNat) (x := w 1 (c + (w 0 0).toNat)) (n := (w 0 2).toNat) (by omega) (fun k _ hkc => by rw [if_neg hkc]) (by
        rw [if_pos rfl, if_neg (by omega), fU, if_pos hup]
        omega)
      have e4 := used_cells hw
      have e5 : allN w = su (fun k => w 1 k) (w 0 2).toNat := rfl
      omega
    have hl := lsn_le (w := w) c htop (w 0 2).toNat (by omega)
    have eu : used w + w 1 c = allN w := by omega
    rw [eu] at ea
    omega
  · omega
/-- at the end of an order -/
theorem htc_full (hw : wOK T w) (h : un w = 0) (t u : Int) : htc w t u = 0 := by
  have hf := (used_full hw h).1
  unfold htc
  have e : ∀ p, p < (w 0 0).toNat → (hts w t u p (w 0 1).toNat).1 = 0 := fun p hp => by
    rw [hts_poured _ (fun i hi => hf _ (strip_cell hw (by omega) (by omega)))]
  rw [su_cong (g := fun _ => 0) e]
  have e2 : ∀ m : Nat, su (fun _ => 0) m = 0 := by
    intro m
    induction m with
    | zero => rfl
    | succ m ih => rw [su, ih]; rfl
  exact e2 _
end P2
