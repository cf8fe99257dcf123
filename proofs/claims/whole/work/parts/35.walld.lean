/-! The class's wall: what its methods write -/
theorem cv_up {σ : pM} {o f j : Nat} {v : Int} (h : (f = 0 ∧ j < 8) ∨ (1 ≤ f ∧ f ≤ 5 ∧ j < 9)) : cv (up2 σ (o + f) j v) o = up2 (cv σ o) f j v := by
  funext a b
  by_cases ha : a = f
  · subst ha
    by_cases hb : b = j
    · subst hb
      simp [cv, up2, h]
    · simp [cv, up2, hb]
  · have : ¬ o + a = o + f := by omega
    simp [cv, up2, ha]
theorem cv_up0 {σ : pM} {o j : Nat} {v : Int} (h : j < 8) : cv (up2 σ o j v) o = up2 (cv σ o) 0 j v := cv_up (f := 0) (Or.inl ⟨rfl, h⟩)
theorem cv_ne {σ σ2 : pM} {o : Nat} (h : ∀ f, f ≤ 5 → σ2 (o + f) = σ (o + f)) : cv σ2 o = cv σ o := by
  funext a b
  unfold cv
  split
  · rename_i q
    rw [h a (by omega)]
  · rfl
/-- nothing changes but the cells o .. o + 5 -/
def Fr (o : Nat) (σ σ2 : pM) : Prop := ∀ x, (x < o ∨ o + 5 < x) → σ2 x = σ x
theorem Fr.rf {o : Nat} {σ : pM} : Fr o σ σ := fun _ _ => rfl
theorem Fr.tr {o : Nat} {σ σ2 σ3 : pM} (h : Fr o σ σ2) (h2 : Fr o σ2 σ3) : Fr o σ σ3 := fun x hx => (h2 x hx).trans (h x hx)
theorem Fr.up {o f j : Nat} {v : Int} {σ : pM} (hf : f ≤ 5) : Fr o σ (up2 σ (o + f) j v) := fun x hx => up2_ne (by omega)
theorem Fr.up0 {o j : Nat} {v : Int} {σ : pM} : Fr o σ (up2 σ o j v) := fun x hx => up2_ne (by omega)
def fR (σ : pM) (r n : Nat) (v : Int) : pM := fun a j => if a = r then (if j < n then v else σ a j) else σ a j
theorem fR_0 (σ : pM) (r : Nat) (v : Int) : fR σ r 0 v = σ := by funext a j; simp [fR]
theorem fR_s (σ : pM) (r n : Nat) (v : Int) : up2 (fR σ r n v) r n v = fR σ r (n + 1) v := by
  funext a j
  unfold up2 fR
  by_cases ha : a = r
  · simp only [ha, if_true]
    by_cases hj : j = n
    · simp [hj]
    · simp only [hj, if_false]
      by_cases h2 : j < n
      · rw [if_pos h2, if_pos (by omega)]
      · rw [if_neg h2, if_neg (by omega)]
  · simp [ha]
def cR (σ : pM) (a b n : Nat) : pM := fun x j => if x = b then (if j < n then σ a j else σ x j) else σ x j
theorem cR_0 (σ : pM) (a b : Nat) : cR σ a b 0 = σ := by funext x j; simp [cR]
theorem cR_s (σ : pM) {a b : Nat} (n : Nat) (hab : a ≠ b) : up2 (cR σ a b n) b n ((cR σ a b n) a n) = cR σ a b (n + 1) := by
  funext x j
  unfold up2 cR
  by_cases hx : x = b
  · simp only [hx, if_true]
    by_cases hj : j = n
    · simp [hj, hab]
    · simp only [hj, if_false]
      by_cases h2 : j < n
      · rw [if_pos h2, if_pos (by omega)]
      · rw [if_neg h2, if_neg (by omega)]
  · simp [hx]
section W4
variable {d : Nat} {g : pG} {σ : pM} {o : Nat} {T : Int}
theorem c_fillRow {r n : Nat} {v : Int} (hr : gA g r 7 n) (hn : n ≤ 2000) : Ca (d + 1) yX5_fillRow [vR (some r), vI v] g σ [] g (fR σ r n v) := by
  refine ca_in cd_X5_fillRow bd_X5_fillRow rfl (by decide) (Nat.le_of_ble_eq_true rfl) (fun Q P hP hQ => ?_)
  have hl : n < 2147483648 := by omega
  refine k_X5_fillRow_0 hP r n v hr hl ?_
  have loop : ∀ (m k : Nat), k + m = n → P 2 [(0, vR (some r)), (1, vI v), (2, vI (k : Int))] [] g (fR σ r k v) 0 0 := by
    intro m
    induction m with
    | zero =>
      intro k hk
      refine k_X5_fillRow_2 hP r n _ _ hr hl ⟨rO (by omega) (by omega), rO (by omega) (by omega), fun _ => ?_, fun h => absurd (by omega) h⟩
      rw [show k = n by omega]
      exact hQ
    | succ m ih =>
      intro k hk
      have hi := ih (k + 1) (by omega)
      refine k_X5_fillRow_2 hP r n _ _ hr hl ⟨rO (by omega) (by omega), rO (by omega) (by omega), fun h => absurd h (by omega), fun _ => ⟨⟨by omega, by omega⟩, ?_⟩⟩
      rw [Int.toNat_natCast, fR_s]
      exact hi
  have h := loop n 0 (by omega)
  rw [fR_0] at h
  exact h
theorem c_copyRow {a b n m : Nat} (ha : gA g a 7 n) (hb : gA g b 7 m) (hnm : n = m) (hn : n ≤ 2000) (hab : a ≠ b) : Ca (d + 1) yX5_copyRow [vR (some a), vR (some b)] g σ [] g (cR σ a b n) := by
  subst hnm
  refine ca_in cd_X5_copyRow bd_X5_copyRow rfl (by decide) (Nat.le_of_ble_eq_true rfl) (fun Q P hP hQ => ?_)
  have hl : n < 2147483648 := by omega
  refine k_X5_copyRow_0 hP a n b n ha hl hb hl ?_
  have loop : ∀ (m k : Nat), k + m = n → P 2 [(0, vR (some a)), (1, vR (some b)), (2, vI (k : Int))] [] g (cR σ a b k) 0 0 := by
    intro m
    induction m with
    | zero =>
      intro k hk
      refine k_X5_copyRow_2 hP a n b n _ ha hl hb hl ⟨rO (by omega) (by omega), rO (by omega) (by omega), fun _ => ?_, fun h => absurd (by omega) h⟩
      rw [show k = n by omega]
      exact hQ
    | succ m ih =>
      intro k hk
      have hi := ih (k + 1) (by omega)
      refine k_X5_copyRow_2 hP a n b n _ ha hl hb hl ⟨rO (by omega) (by omega), rO (by omega) (by omega), fun h => absurd h (by omega), fun _ => ⟨rO (by omega) (by omega), rO (by omega) (by omega), fun h => absurd h (by omega), fun _ => ⟨⟨by omega, by omega⟩, ⟨by omega, by omega⟩, ?_⟩⟩⟩
      rw [Int.toNat_natCast, cR_s σ k hab]
      exact hi
  have h := loop n 0 (by omega)
  rw [cR_0] at h
  exact h
/-- a row of a wall is filled -/
def fW (w : Wl) (f : Nat) (v : Int) : Wl := fun a j => if a = f then (if j < 9 then v else w a j) else w a j
theorem cv_fR {f : Nat} {v : Int} (h1 : 1 ≤ f) (h2 : f ≤ 5) : cv (fR σ (o + f) 9 v) o = fW (cv σ o) f v := by
  funext a b
  unfold cv fR fW
  by_cases ha : a = f
  · subst ha
    by_cases hb : b < 9
    · simp [hb, h1, h2]
    · have : ¬ ((a = 0 ∧ b < 8) ∨ (1 ≤ a ∧ a ≤ 5 ∧ b < 9)) := by omega
      simp [this, hb]
  · simp [ha]
theorem Fr.fr1 {f n : Nat} {v : Int} (hf : f ≤ 5) : Fr o σ (fR σ (o + f) n v) := fun x hx => by
  funext j
  have : ¬ x = o + f := by omega
  simp [fR, this]
theorem Fr.cr1 {a f n : Nat} (hf : f ≤ 5) : Fr o σ (cR σ a (o + f) n) := fun x hx => by
  funext j
  have : ¬ x = o + f := by omega
  simp [cR, this]
def rai (w : Wl) (a b : Int) : Wl := fW (fW (fW (up2 (up2 (up2 (up2 (up2 w 0 0 a) 0 1 b) 0 2 (a * b)) 0 3 0) 0 7 0) 1 1) 2 (-1)) 3 (-1)
theorem ab9 {a b : Int} (ha : 1 ≤ a ∧ a ≤ 3) (hb : 1 ≤ b ∧ b ≤ 3) : 1 ≤ a * b ∧ a * b ≤ 9 := by
  have h1 : a = 1 ∨ a = 2 ∨ a = 3 := by omega
  have h2 : b = 1 ∨ b = 2 ∨ b = 3 := by omega
  rcases h1 with rfl | rfl | rfl <;> rcases h2 with rfl | rfl | rfl <;> decide
theorem c_raise {a b : Int} (ha : 1 ≤ a ∧ a ≤ 3) (hb : 1 ≤ b ∧ b ≤ 3) (hg : gWl g o) : ∃ σ2, Ca (d + 2) yX4_raise [vR (some o), vI a, vI b] g σ [] g σ2 ∧ cv σ2 o = rai (cv σ o) a b ∧ Fr o σ σ2 := by
  have h9 := ab9 ha hb
  refine ⟨_, ca_in cd_X4_raise bd_X4_raise rfl (by decide) (Nat.le_of_ble_eq_true rfl) (fun Q P hP hQ => k_X4_raise_0 hP o a b hg ⟨_, c_min (d := d) (rO (by omega) (by omega)) (by decide), _, c_fillRow (d := d) hg.a1 (by decide), _, c_fillRow (d := d) hg.a2 (by decide), _, c_fillRow (d := d) hg.a3 (by decide), hQ⟩), ?_, ?_⟩
  · rw [Int.min_eq_left (by omega), cv_fR (by decide) (by decide), cv_fR (by decide) (by decide), cv_fR (by decide) (by decide), cv_up0 (by decide), cv_up0 (by decide), cv_up0 (by decide), cv_up0 (by decide), cv_up0 (by decide)]
    rfl
  · exact (((((((Fr.up0).tr Fr.up0).tr Fr.up0).tr Fr.up0).tr Fr.up0).tr (Fr.fr1 (by decide))).tr (Fr.fr1 (by decide))).tr (Fr.fr1 (by decide))
theorem rai_ok {w : Wl} (hw : wOK T w) (hT : 0 ≤ T) {a b : Int} (ha : 1 ≤ a ∧ a ≤ 3) (hb : 1 ≤ b ∧ b ≤ 3) : wOK T (rai w a b) := by
  obtain ⟨-, -, -, -, h5, h6, h7, -, h9, -, -⟩ := hw
  refine ⟨ha, hb, rfl, ⟨Int.le_refl 0, hT⟩, h5, h6, h7, ⟨Int.le_refl 0, show (0 : Int) ≤ 9 by decide⟩, h9, fun c hc => ?_, fun c hc => Or.inl ?_⟩
  · have e : rai w a b 1 c = 1 := by simp [rai, fW, hc]
    rw [e]; decide
  · simp [rai, fW, hc]
theorem c_copyFrom {a : Nat} (hg : gWl g o) (ha : gWl g a) (hd : a + 5 < o ∨ o + 5 < a) : ∃ σ2, Ca (d + 2) yX4_copyFrom [vR (some o), vR (some a)] g σ [] g σ2 ∧ cv σ2 o = cv σ a ∧ Fr o σ σ2 := by
  have key : ∀ {j k : Nat} {v : Int} {s : pM}, (up2 s o j v) a k = s a k := fun {j k v s} => congrFun (up2_ne (show a ≠ o by omega)) k
  refine ⟨cR (cR (cR (cR (cR (up2 (up2 (up2 (up2 (up2 (up2 (up2 (up2 σ o 0 (σ a 0)) o 1 (σ a 1)) o 2 (σ a 2)) o 3 (σ a 3)) o 4 (σ a 4)) o 5 (σ a 5)) o 6 (σ a 6)) o 7 (σ a 7)) (a + 1) (o + 1) 9) (a + 2) (o + 2) 9) (a + 3) (o + 3) 9) (a + 4) (o + 4) 9) (a + 5) (o + 5) 9, ca_in cd_X4_copyFrom bd_X4_copyFrom rfl (by decide) (Nat.le_of_ble_eq_true rfl) (fun Q P hP hQ => ?_), ?_, ?_⟩
  · refine kk_X4_copyFrom_0 hP o a hg ha (kk_X4_copyFrom_8 hP o a hg ha (kk_X4_copyFrom_16 hP o a hg ha (kk_X4_copyFrom_24 hP o a hg ha (kk_X4_copyFrom_32 hP o a hg ha (kk_X4_copyFrom_40 hP o a hg ha (kk_X4_copyFrom_48 hP o a hg ha (kk_X4_copyFrom_56 hP o a hg ha (kk_X4_copyFrom_64 hP o a hg ha ?_))))))))
    simp only [key]
    exact ⟨_, c_copyRow (d := d) ha.a1 hg.a1 rfl (by decide) (by omega), _, c_copyRow (d := d) ha.a2 hg.a2 rfl (by decide) (by omega), _, c_copyRow (d := d) ha.a3 hg.a3 rfl (by decide) (by omega), _, c_copyRow (d := d) ha.a4 hg.a4 rfl (by decide) (by omega), _, c_copyRow (d := d) ha.a5 hg.a5 rfl (by decide) (by omega), hQ⟩
  · have n1 : ∀ i k : Nat, i ≤ 5 → k ≤ 5 → a + i ≠ o + k := fun i k h1 h2 => by omega
    have m1 : ∀ i k : Nat, i ≠ k → o + i ≠ o + k := fun i k h => by omega
    have m0 : ∀ k : Nat, 0 < k → o + k ≠ o := fun k h => by omega
    have n0 : ∀ i : Nat, i ≤ 5 → a + i ≠ o := fun i h1 => by omega
    funext f j
    unfold cv
    split
    · rename_i q
      rcases (show f = 0 ∨ f = 1 ∨ f = 2 ∨ f = 3 ∨ f = 4 ∨ f = 5 by omega) with rfl | rfl | rfl | rfl | rfl | rfl
      · have hj : j < 8 := by omega
        rcases (show j = 0 ∨ j = 1 ∨ j = 2 ∨ j = 3 ∨ j = 4 ∨ j = 5 ∨ j = 6 ∨ j = 7 by omega) with rfl | rfl | rfl | rfl | rfl | rfl | rfl | rfl <;> simp [cR, up2]
      all_goals
        have hj : j < 9 := by omega
        simp [cR, up2, hj, n1, n0]
    · rfl
  · exact (((((((((((((Fr.up0).tr Fr.up0).tr Fr.up0).tr Fr.up0).tr Fr.up0).tr Fr.up0).tr Fr.up0).tr Fr.up0).tr (Fr.cr1 (by decide))).tr (Fr.cr1 (by decide))).tr (Fr.cr1 (by decide))).tr (Fr.cr1 (by decide))).tr (Fr.cr1 (by decide)))
theorem c_swapBound {k : Nat} {v : Int} (hk : k ≤ 2) (hg : gWl g o) : Ca (d + 1) yX4_swapBound [vR (some o), vI (k : Int), vI v] g σ [vI (σ o (4 + k))] g (up2 σ o (4 + k) v) := by
  refine ca_in cd_X4_swapBound bd_X4_swapBound rfl (by decide) (Nat.le_of_ble_eq_true rfl) (fun Q P hP hQ => ?_)
  rcases (show k = 0 ∨ k = 1 ∨ k = 2 by omega) with rfl | rfl | rfl
  · exact k_X4_swapBound_0 hP o _ v hg ⟨by decide, fun h => absurd rfl h, fun _ => hQ⟩
  · exact k_X4_swapBound_0 hP o _ v hg ⟨by decide, fun _ => ⟨by decide, fun h => absurd rfl h, fun _ => hQ⟩, fun h => absurd (by decide) h⟩
  · exact k_X4_swapBound_0 hP o _ v hg ⟨by decide, fun _ => ⟨by decide, fun _ => hQ, fun h => absurd (by decide) h⟩, fun h => absurd (by decide) h⟩
theorem c_fill {c : Nat} (hg : gWl g o) (hw : wOK T (cv σ o)) (hT : T ≤ 1000000) (hc : c < 9) : ∃ σ2, Ca (d + 4) yX4_fill [vR (some o), vI (c : Int)] g σ [] g σ2 ∧ cv σ2 o = fil (cv σ o) c ∧ Fr o σ σ2 := by
  have hs := stt_bd hw (by have := hw.tm; omega) c
  by_cases h : stt (cv σ o) c = -1
  · refine ⟨σ, ca_in cd_X4_fill bd_X4_fill rfl (by decide) (Nat.le_of_ble_eq_true rfl) (fun Q P hP hQ => k_X4_fill_0 hP o _ hg ⟨_, c_stt (d := d) hg hw hT hc, rO (by omega) (by omega), fun q => absurd h q, fun _ => hQ⟩), ?_, Fr.rf⟩
    rw [fil, if_pos h]
  · refine ⟨up2 (up2 (up2 σ (o + 2) c (stt (cv σ o) c)) (o + 3) c (stt (cv σ o) c + σ (o + 1) c)) o 3 (stt (cv σ o) c + σ (o + 1) c), ca_in cd_X4_fill bd_X4_fill rfl (by decide) (Nat.le_of_ble_eq_true rfl) (fun Q P hP hQ => k_X4_fill_0 hP o _ hg ⟨_, c_stt (d := d) hg hw hT hc, rO (by omega) (by omega), fun _ => ⟨⟨by omega, by omega⟩, ⟨by omega, by omega⟩, ⟨by omega, by omega⟩, ⟨by omega, by omega⟩, ?_⟩, fun q => absurd h q⟩), ?_, ?_⟩
    · have e1 : (up2 σ (o + 2) c (stt (cv σ o) c)) (o + 1) c = σ (o + 1) c := by simp [up2]
      have e2 : (up2 (up2 σ (o + 2) c (stt (cv σ o) c)) (o + 3) c (stt (cv σ o) c + σ (o + 1) c)) (o + 3) c = stt (cv σ o) c + σ (o + 1) c := by simp [up2]
      rw [Int.toNat_natCast, e1, e2]
      exact hQ
    · rw [fil, if_neg h, cv_up0 (by decide), cv_up (f := 3) (Or.inr ⟨by decide, by decide, hc⟩), cv_up (f := 2) (Or.inr ⟨by decide, by decide, hc⟩), cv1 hc]
    · exact ((Fr.up (by decide)).tr (Fr.up (by decide))).tr Fr.up0
theorem fil_ok {w : Wl} (hw : wOK T w) (hT : 200 ≤ T) {c : Nat} (hc : c < 9) : wOK (T + 3) (fil w c) := by
  have hn := hw.nd hc
  have hs := stt_bd hw (by omega) c
  have hb := bAt_bd hw (used w + w 1 c) (w 0 7).toNat (by have := hw.nt; omega)
  have htm := hw.tm
  unfold fil
  split
  · obtain ⟨h1, h2, h3, h4, h5, h6, h7, h8, h9, h10, h11⟩ := hw
    exact ⟨h1, h2, h3, ⟨h4.1, by omega⟩, h5, h6, h7, h8, h9, h10, h11⟩
  · rename_i hne
    have hst : 0 ≤ stt w c ∧ w 0 3 ≤ stt w c ∧ stt w c ≤ T ∧ (c : Int) < w 0 2 := by
      unfold stt at hne ⊢
      split at hne
      · rename_i hcan
        rw [if_pos hcan]
        split at hne
        · exact absurd rfl hne
        · rename_i hb2
          rw [if_neg hb2]
          omega
      · exact absurd rfl hne
    obtain ⟨h1, h2, h3, h4, h5, h6, h7, h8, h9, h10, h11⟩ := hw
    refine ⟨h1, h2, h3, ?_, h5, h6, h7, h8, h9, h10, fun c2 hc2 => ?_⟩
    · show 0 ≤ stt w c + w 1 c ∧ stt w c + w 1 c ≤ T + 3
      omega
    · have e3 : up2 (up2 (up2 w 2 c (stt w c)) 3 c (stt w c + w 1 c)) 0 3 (stt w c + w 1 c) 0 3 = stt w c + w 1 c := rfl
      have e1 : up2 (up2 (up2 w 2 c (stt w c)) 3 c (stt w c + w 1 c)) 0 3 (stt w c + w 1 c) 1 c2 = w 1 c2 := rfl
      have e02 : up2 (up2 (up2 w 2 c (stt w c)) 3 c (stt w c + w 1 c)) 0 3 (stt w c + w 1 c) 0 2 = w 0 2 := rfl
      have h12 := h11 c2 hc2
      by_cases hcc : c2 = c
      · subst hcc
        have e2 : up2 (up2 (up2 w 2 c2 (stt w c2)) 3 c2 (stt w c2 + w 1 c2)) 0 3 (stt w c2 + w 1 c2) 2 c2 = stt w c2 := by simp [up2]
        have e4 : up2 (up2 (up2 w 2 c2 (stt w c2)) 3 c2 (stt w c2 + w 1 c2)) 0 3 (stt w c2 + w 1 c2) 3 c2 = stt w c2 + w 1 c2 := by simp [up2]
        rw [e3, e1, e2, e4, e02]
        exact Or.inr ⟨by omega, rfl, by omega, hst.2.2.2⟩
      · have e2 : up2 (up2 (up2 w 2 c (stt w c)) 3 c (stt w c + w 1 c)) 0 3 (stt w c + w 1 c) 2 c2 = w 2 c2 := by simp [up2, hcc]
        have e4 : up2 (up2 (up2 w 2 c (stt w c)) 3 c (stt w c + w 1 c)) 0 3 (stt w c + w 1 c) 3 c2 = w 3 c2 := by simp [up2, hcc]
        rw [e3, e1, e2, e4, e02]
        omega
end W4
