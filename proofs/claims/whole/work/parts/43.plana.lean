/-! The plan: bounds of what is left (pure) -/
theorem su_one {f g : Nat → Int} {c : Nat} {x : Int} : ∀ {n : Nat}, c < n → (∀ k, k < n → k ≠ c → g k = f k) → g c = f c + x → su g n = su f n + x
  | 0, h, _, _ => by omega
  | n + 1, h, h1, h2 => by
    rw [su, su]
    by_cases hc : c = n
    · subst hc
      rw [su_cong (g := f) (fun k hk => h1 k (by omega) (by omega)), h2]
      omega
    · rw [su_one (c := c) (x := x) (by omega) (fun k hk hne => h1 k (by omega) hne) h2, h1 n (by omega) (by omega)]
      omega
theorem su_le {f g : Nat → Int} : ∀ {n : Nat}, (∀ k, k < n → f k ≤ g k) → su f n ≤ su g n
  | 0, _ => Int.le_refl _
  | n + 1, h => by
    have h1 := su_le (n := n) (fun k hk => h k (by omega))
    have h2 := h n (by omega)
    rw [su, su]
    omega
theorem su_le1 {f g : Nat → Int} {c : Nat} {x : Int} (n : Nat) (hc : c < n) (h : ∀ k, k < n → k ≠ c → f k ≤ g k) (h2 : f c ≤ x + g c) : su f n ≤ x + su g n := by
  have e : su (fun k => if k = c then x + g c else g k) n = su g n + x := su_one (c := c) hc (fun k _ hk => if_neg hk) (by rw [if_pos rfl]; omega)
  have l : su f n ≤ su (fun k => if k = c then x + g c else g k) n := su_le (fun k hk => by
    by_cases hkc : k = c
    · rw [if_pos hkc, hkc]; exact h2
    · rw [if_neg hkc]; exact h k hk hkc)
  omega
def wS (w : Wl) : Prop := ∀ c : Nat, c < 9 → ¬ w 2 c = -1 → w 0 0 ≤ (c : Int) → ¬ w 2 (c - (w 0 0).toNat) = -1
section P1
variable {T : Int} {w : Wl} {c : Nat}
theorem stt_can (h : ¬ stt w c = -1) : ((c : Int) < w 0 2 ∧ w 2 c = -1 ∧ (w 0 0 ≤ (c : Int) → ¬ w 2 (c - (w 0 0).toNat) = -1)) ∧ ¬ bAt w (used w + w 1 c) (w 0 7).toNat = -1 ∧ stt w c = max (w 0 3) (bAt w (used w + w 1 c) (w 0 7).toNat) := by
  unfold stt at h ⊢
  split at h
  · rename_i h1
    rw [if_pos h1]
    split at h
    · exact absurd rfl h
    · rename_i h2
      rw [if_neg h2]
      exact ⟨h1, h2, rfl⟩
  · exact absurd rfl h
theorem fil_n {j : Nat} (hj : j ≠ 3) : fil w c 0 j = w 0 j := by
  unfold fil
  split
  · rfl
  · simp [up2, hj]
theorem fil_r {f : Nat} (h0 : f ≠ 0) (h2 : f ≠ 2) (h3 : f ≠ 3) : fil w c f = w f := by
  funext j
  unfold fil
  split
  · rfl
  · simp [up2, h0, h2, h3]
theorem fil_t (h : ¬ stt w c = -1) : fil w c 0 3 = stt w c + w 1 c := by rw [fil, if_neg h]; rfl
theorem fil_2c (h : ¬ stt w c = -1) : fil w c 2 c = stt w c := by rw [fil, if_neg h]; simp [up2]
theorem fil_3c (h : ¬ stt w c = -1) : fil w c 3 c = stt w c + w 1 c := by rw [fil, if_neg h]; simp [up2]
theorem fil_2k {k : Nat} (hk : k ≠ c) : fil w c 2 k = w 2 k := by
  unfold fil
  split
  · rfl
  · simp [up2, hk]
theorem fil_3k {k : Nat} (hk : k ≠ c) : fil w c 3 k = w 3 k := by
  unfold fil
  split
  · rfl
  · simp [up2, hk]
theorem bro_cong {w2 : Wl} (h4 : w2 4 = w 4) (h5 : w2 5 = w 5) (h7 : w2 0 7 = w 0 7) (t : Int) : bro w2 t = bro w t := by
  unfold bro
  rw [h4, h5, h7]
theorem bAt_cong {w2 : Wl} (h4 : w2 4 = w 4) (h5 : w2 5 = w 5) (h7 : w2 0 7 = w 0 7) (n : Int) : ∀ k, bAt w2 n k = bAt w n k
  | 0 => rfl
  | k + 1 => by
    unfold bAt
    rw [bAt_cong h4 h5 h7 n k, h4, bro_cong h4 h5 h7]
theorem fil_bAt (n : Int) : bAt (fil w c) n (fil w c 0 7).toNat = bAt w n (w 0 7).toNat := by
  rw [fil_n (by decide)]
  exact bAt_cong (fil_r (by decide) (by decide) (by decide)) (fil_r (by decide) (by decide) (by decide)) (fil_n (by decide)) n _
theorem fil_used (hw : wOK T w) (hT : 0 ≤ T) (h : ¬ stt w c = -1) : used (fil w c) = used w + w 1 c := by
  obtain ⟨⟨h1, h2, h3⟩, h4, h5⟩ := stt_can h
  have hc := hw.cells
  have htm := hw.tm
  have hs : 0 ≤ stt w c := by omega
  unfold used
  refine su_one (c := c) (by omega) (fun k hk hkc => ?_) ?_
  · rw [fil_2k hkc, fil_r (by decide) (by decide) (by decide)]
  · rw [fil_2c h, if_neg h, if_pos h2, fil_r (by decide) (by decide) (by decide)]
    omega
theorem fil_un (hw : wOK T w) (h : ¬ stt w c = -1) : un (fil w c) = un w - 1 := by
  obtain ⟨⟨h1, h2, h3⟩, h4, h5⟩ := stt_can h
  have hc := hw.cells
  unfold un
  rw [fil_n (by decide)]
  have := su_one (f := fun k => if w 2 k = -1 then (1 : Int) else 0) (g := fun k => if fil w c 2 k = -1 then (1 : Int) else 0) (c := c) (x := -1) (n := (w 0 2).toNat) (by omega) (fun k hk hkc => by rw [fil_2k hkc]) (by rw [fil_2c h, if_neg h, if_pos h2]; rfl)
  omega
theorem fil_wS (hs : wS w) : wS (fil w c) := by
  intro k hk h1 h2
  rw [fil_n (by decide)] at h2 ⊢
  by_cases h : stt w c = -1
  · rw [fil, if_pos h] at h1 ⊢
    exact hs k hk h1 h2
  · obtain ⟨⟨c1, c2, c3⟩, c4, c5⟩ := stt_can h
    by_cases hk2 : k - (w 0 0).toNat = c
    · rw [hk2, fil_2c h]; exact h
    · rw [fil_2k hk2]
      by_cases hkc : k = c
      · rw [hkc]; exact c3 (by rw [← hkc]; exact h2)
      · rw [fil_2k hkc] at h1
        exact hs k hk h1 h2
def allN (w : Wl) : Int := su (fun c => w 1 c) (w 0 2).toNat
theorem allN_bd (hw : wOK T w) : 0 ≤ allN w ∧ allN w ≤ 27 := by
  have hc := hw.cells
  have := su_bd (f := fun c => w 1 c) (a := 0) (b := 3) (n := (w 0 2).toNat) (fun k hk => by have := hw.nd (k := k) (by omega); omega)
  unfold allN
  omega
theorem fil_allN : allN (fil w c) = allN w := by
  unfold allN
  rw [fil_n (by decide), fil_r (by decide) (by decide) (by decide)]
theorem used_all (hw : wOK T w) (hc : (c : Int) < w 0 2) (h2 : w 2 c = -1) : used w + w 1 c ≤ allN w := by
  have hcl := hw.cells
  rw [used_cells hw]
  have := su_le1 (f := fun k => w 1 c * (if k = c then 1 else 0) + fU w k) (g := fun k => w 1 k) (c := c) (x := 0) (w 0 2).toNat (by omega) (fun k hk hkc => by
    have := hw.nd (k := k) (by omega)
    rw [if_neg hkc]
    unfold fU
    split <;> omega) (by
    rw [if_pos rfl, fU, if_pos h2]
    omega)
  have e := su_one (f := fU w) (g := fun k => w 1 c * (if k = c then 1 else 0) + fU w k) (c := c) (x := w 1 c) (n := (w 0 2).toNat) (by omega) (fun k hk hkc => by rw [if_neg hkc]; omega) (by rw [if_pos rfl]; omega)
  unfold allN
  omega
theorem used_full (hw : wOK T w) (h : un w = 0) : (∀ k : Nat, (k : Int) < w 0 2 → ¬ w 2 k = -1) ∧ used w = allN w := by
  have hcl := hw.cells
  have h1 : ∀ k : Nat, (k : Int) < w 0 2 → ¬ w 2 k = -1 := by
    intro k hk q
    have e := su_one (f := fun j => (if w 2 j = -1 then (1 : Int) else 0) - (if j = k then 1 else 0)) (g := fun j => if w 2 j = -1 then (1 : Int) else 0) (c := k) (x := 1) (n := (w 0 2).toNat) (by omega) (fun j hj hjk => by rw [if_neg hjk]; omega) (by rw [if_pos q, if_pos rfl]; rfl)
    have b := su_bd (f := fun j => (if w 2 j = -1 then (1 : Int) else 0) - (if j = k then 1 else 0)) (a := 0) (b := 1) (n := (w 0 2).toNat) (fun j hj => by
      by_cases hjk : j = k
      · rw [if_pos hjk, hjk, if_pos q]; omega
      · rw [if_neg hjk]; split <;> omega)
    unfold un at h
    omega
  refine ⟨h1, ?_⟩
  rw [used_cells hw]
  exact su_cong (fun k hk => if_neg (h1 k (by omega)))
theorem un_pos (hw : wOK T w) (h : ¬ un w = 0) : used w < allN w := by
  have hcl := hw.cells
  have hub := un_bd hw
  have : ∃ k : Nat, (k : Int) < w 0 2 ∧ w 2 k = -1 := by
    apply Classical.byContradiction
    intro q
    apply h
    have e : un w = su (fun _ => 0) (w 0 2).toNat := su_cong (fun k hk => if_neg (fun z => q ⟨k, by omega, z⟩))
    have e2 : ∀ m : Nat, su (fun _ => 0) m = 0 := by
      intro m
      induction m with
      | zero => rfl
      | succ m ih => rw [su, ih]; rfl
    rw [e, e2]
  obtain ⟨k, hk, h2⟩ := this
  have := used_all hw hk h2
  have := hw.nd (k := k) (by omega)
  omega
/-- when n LOADS have come -/
def arr (w : Wl) (n : Int) : Int := if 28 ≤ n ∨ bAt w n (w 0 7).toNat = -1 then 1000000000 else bAt w n (w 0 7).toNat
theorem arr_bd (hw : wOK T w) (n : Int) : (0 ≤ arr w n ∧ arr w n ≤ 200) ∨ arr w n = 1000000000 := by
  have hb := bAt_bd hw n (w 0 7).toNat (by have := hw.nt; omega)
  unfold arr
  split <;> omega
theorem arr_mono (hw : wOK T w) {a b : Int} (h : a ≤ b) : arr w a ≤ arr w b := by
  have hnt := hw.nt
  have hb := bAt_bd hw a (w 0 7).toNat (by omega)
  unfold arr
  by_cases h28 : 28 ≤ b
  · rw [if_pos (Or.inl h28)]
    split <;> omega
  · rcases bAt_in w b (w 0 7).toNat with h1 | ⟨j, h1, h2, h3⟩
    · rw [if_pos (Or.inr h1)]
      split <;> omega
    · have h0 : ∀ j, j < (w 0 7).toNat → 0 ≤ w 4 j := fun j hj => (hw.tr (k := j) (by omega)).1
      have := bAt_le (w := w) a _ h0 j h1 (by omega)
      have := h0 j h1
      rw [if_neg (by omega), if_neg (by omega)]
      omega
theorem fil_arr (n : Int) : arr (fil w c) n = arr w n := by
  unfold arr
  rw [fil_bAt]
theorem stt_arr (hw : wOK T w) (h : ¬ stt w c = -1) : stt w c = max (w 0 3) (arr w (used w + w 1 c)) := by
  obtain ⟨h1, h2, h3⟩ := stt_can h
  have := used_all hw h1.1 h1.2.1
  have := allN_bd hw
  rw [arr, if_neg (by omega)]
  exact h3
/-- the plan's row of ends -/
def dn (w : Wl) (c : Nat) : Int := if w 2 c = -1 then 1000000000 else w 3 c
def hC (w : Wl) (c : Nat) (st : Int) : Int := (if w 0 0 ≤ (c : Int) ∧ dn w (c - (w 0 0).toNat) < st - w 0 4 then w 0 5 else 0) + (if 0 < (c : Int) % w 0 0 ∧ dn w (c - 1) < st - w 0 4 then w 0 6 else 0) + (if (c : Int) % w 0 0 + 1 < w 0 0 ∧ dn w (c + 1) < st - w 0 4 then w 0 6 else 0)
theorem hC_bd (hw : wOK T w) (c : Nat) (st : Int) : 0 ≤ hC w c st ∧ hC w c st ≤ 27 := by
  have h1 := hw.hv
  have h2 := hw.lg
  unfold hC
  split <;> split <;> split <;> omega
def hcv (w : Wl) : Int := su (fun c => if w 2 c = -1 then 0 else hC w c (w 3 c - w 1 c)) (w 0 2).toNat
def htS (w : Wl) (c : Nat) (q : Int × Int × Int) : Int × Int × Int := if w 2 c = -1 then (q.1 + hC w c (max q.2.1 (arr w (q.2.2 + w 1 c))), max q.2.1 (arr w (q.2.2 + w 1 c)) + w 1 c, q.2.2 + w 1 c) else q
def hts (w : Wl) (t u : Int) (p : Nat) : Nat → Int × Int × Int
  | 0 => (0, t, u)
  | l + 1 => htS w (l * (w 0 0).toNat + p) (hts w t u p l)
def htc (w : Wl) (t u : Int) : Int := su (fun p => (hts w t u p (w 0 1).toNat).1) (w 0 0).toNat
def lsn (w : Wl) : Nat → Int
  | 0 => 3
  | c + 1 => if (c : Int) + w 0 0 < w 0 2 then lsn w c else min (lsn w c) (w 1 c)
def lbH (w : Wl) : Int := hcv w + htc w (w 0 3) (used w)
def lbE (w : Wl) : Int := if allN w - used w = 0 then w 0 3 else max (w 0 3 + (allN w - used w)) (arr w (allN w) + lsn w (w 0 2).toNat)
theorem hC_mono {w2 : Wl} (hw : wOK T w) (e0 : ∀ j, j ≠ 3 → w2 0 j = w 0 j) (hd : ∀ k, dn w2 k ≤ dn w k) {a b : Int} (hab : a ≤ b) (k : Nat) : hC w k a ≤ hC w2 k b := by
  have h1 := hw.hv
  have h2 := hw.lg
  unfold hC
  rw [e0 0 (by decide), e0 4 (by decide), e0 5 (by decide), e0 6 (by decide)]
  have d1 := hd (k - (w 0 0).toNat)
  have d2 := hd (k - 1)
  have d3 := hd (k + 1)
  have i1 : (if w 0 0 ≤ (k : Int) ∧ dn w (k - (w 0 0).toNat) < a - w 0 4 then w 0 5 else 0) ≤ (if w 0 0 ≤ (k : Int) ∧ dn w2 (k - (w 0 0).toNat) < b - w 0 4 then w 0 5 else 0) := by
    split
    · rw [if_pos (by omega)]; omega
    · split <;> omega
  have i2 : (if 0 < (k : Int) % w 0 0 ∧ dn w (k - 1) < a - w 0 4 then w 0 6 else 0) ≤ (if 0 < (k : Int) % w 0 0 ∧ dn w2 (k - 1) < b - w 0 4 then w 0 6 else 0) := by
    split
    · rename_i q
      rw [if_pos ⟨q.1, by omega⟩]; omega
    · split <;> omega
  have i3 : (if (k : Int) % w 0 0 + 1 < w 0 0 ∧ dn w (k + 1) < a - w 0 4 then w 0 6 else 0) ≤ (if (k : Int) % w 0 0 + 1 < w 0 0 ∧ dn w2 (k + 1) < b - w 0 4 then w 0 6 else 0) := by
    split
    · rename_i q
      rw [if_pos ⟨q.1, by omega⟩]; omega
    · split <;> omega
  omega
theorem fil_dn (hw : wOK T w) (hT : T ≤ 90000) (h0 : 0 ≤ T) (h : ¬ stt w c = -1) (k : Nat) : dn (fil w c) k ≤ dn w k := by
  obtain ⟨⟨c1, c2, c3⟩, c4, c5⟩ := stt_can h
  have hcl := hw.cells
  have hs := stt_bd hw h0 c
  have hn := hw.nd (k := c) (by omega)
  unfold dn
  by_cases hk : k = c
  · subst hk
    rw [if_pos c2, fil_2c h, if_neg h, fil_3c h]
    omega
  · rw [fil_2k hk, fil_3k hk]
    exact Int.le_refl _
theorem fil_hcv (hw : wOK T w) (hT : T ≤ 90000) (h0 : 0 ≤ T) (h : ¬ stt w c = -1) : hcv (fil w c) = hcv w + hC w c (stt w c) := by
  obtain ⟨⟨c1, c2, c3⟩, c4, c5⟩ := stt_can h
  have hcl := hw.cells
  have htm := hw.tm
  have hag := hw.ag
  have hst := hw.st
  have hn := hw.nd (k := c) (by omega)
  unfold hcv
  rw [fil_n (by decide)]
  refine su_one (c := c) (by omega) (fun k hk hkc => ?_) ?_
  · rw [fil_2k hkc, fil_3k hkc, fil_r (by decide) (by decide) (by decide)]
    split
    · rfl
    · rename_i hp
      have hb := hw.bd (c := k) (by omega)
      have hnk := hw.nd (k := k) (by omega)
      have key : ∀ j, dn (fil w c) j < w 3 k - w 1 k - w 0 4 ↔ dn w j < w 3 k - w 1 k - w 0 4 := by
        intro j
        by_cases hj : j = c
        · subst hj
          unfold dn
          rw [if_pos c2, fil_2c h, if_neg h, fil_3c h]
          omega
        · unfold dn
          rw [fil_2k hj, fil_3k hj]
      unfold hC
      rw [fil_n (by decide), fil_n (by decide), fil_n (by decide), fil_n (by decide)]
      simp only [key]
  · rw [fil_2c h, if_neg h, if_pos c2, fil_3c h, fil_r (by decide) (by decide) (by decide)]
    have e : stt w c + w 1 c - w 1 c = stt w c := by omega
    rw [e]
    have key : ∀ j, j ≠ c → dn (fil w c) j = dn w j := by
      intro j hj
      unfold dn
      rw [fil_2k hj, fil_3k hj]
    unfold hC
    rw [fil_n (by decide), fil_n (by decide), fil_n (by decide), fil_n (by decide)]
    have k3 : dn (fil w c) (c + 1) = dn w (c + 1) := key _ (by omega)
    have k1 : (w 0 0 ≤ (c : Int) ∧ dn (fil w c) (c - (w 0 0).toNat) < stt w c - w 0 4) ↔ (w 0 0 ≤ (c : Int) ∧ dn w (c - (w 0 0).toNat) < stt w c - w 0 4) := by
      constructor <;> intro q
      · rw [key _ (by omega)] at q; exact q
      · rw [key _ (by omega)]; exact q
    have k2 : (0 < (c : Int) % w 0 0 ∧ dn (fil w c) (c - 1) < stt w c - w 0 4) ↔ (0 < (c : Int) % w 0 0 ∧ dn w (c - 1) < stt w c - w 0 4) := by
      have hc0 : 0 < (c : Int) % w 0 0 → c ≠ 0 := fun q z => by
        rw [z] at q
        simp at q
      constructor <;> intro q
      · rw [key _ (by have := hc0 q.1; omega)] at q; exact q
      · rw [key _ (by have := hc0 q.1; omega)]; exact q
    simp only [k1, k2, k3]
    omega
end P1
