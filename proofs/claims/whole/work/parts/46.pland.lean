/-! The plan: passing over what cannot be better changes nothing (pure) -/
abbrev mbb (al fnd bh be H E : Int) : Prop := H < bh ∨ (H = bh ∧ E < be ∧ ¬ (¬ fnd = 0 ∧ ¬ al = 0))
def cN (fnd bh be : Int) (ord : Nat → Int) (N : Nat) : Bs → Prop
  | none => fnd = 0 ∧ bh = 1000000000 ∧ be = 1000000000
  | some q => fnd = 1 ∧ bh = q.1 ∧ be = q.2.1 ∧ (0 ≤ q.1 ∧ q.1 ≤ 1000) ∧ (0 ≤ q.2.1 ∧ q.2.1 ≤ 1000000) ∧ ∀ j, j < N → ord j = q.2.2 j
def cA (ceil fnd bh be : Int) (b : Bs) : Prop := ((b = none ∨ ∃ q, b = some q ∧ ceil < q.1) ∧ fnd = 0 ∧ bh = ceil ∧ be = 1000000000) ∨ (∃ q, b = some q ∧ q.1 = ceil ∧ fnd = 1 ∧ bh = ceil ∧ 0 ≤ be ∧ be ≤ 1000000) ∨ (∃ q, b = some q ∧ q.1 < ceil ∧ fnd = 1 ∧ bh = -1 ∧ 0 ≤ be ∧ be ≤ 1000000)
def cB (al ceil fnd bh be : Int) (ord : Nat → Int) (N : Nat) (b : Bs) : Prop := (al = 0 ∧ cN fnd bh be ord N b) ∨ (al = 1 ∧ (0 ≤ ceil ∧ ceil ≤ 1000) ∧ cA ceil fnd bh be b)
theorem lf_some (w : Wl) (ch : Nat → Int) (q : Int × Int × (Nat → Int)) : lf w ch (some q) = if hrm w < q.1 ∨ (hrm w = q.1 ∧ w 0 3 < q.2.1) then some (hrm w, w 0 3, ch) else some q := rfl
section P4
variable {T : Int} {w : Wl} {al ceil fnd bh be : Int} {ord : Nat → Int} {N : Nat}
theorem lf_no {ch : Nat → Int} {b : Bs} (hh : 0 ≤ hrm w ∧ hrm w ≤ 1000) (ht : 0 ≤ w 0 3 ∧ w 0 3 ≤ 1000000) (hn : ¬ mbb al fnd bh be (hrm w) (w 0 3)) (h : cB al ceil fnd bh be ord N b) : cB al ceil fnd bh be ord N (lf w ch b) := by
  rcases h with ⟨ha, h⟩ | ⟨ha, hc, h⟩
  · refine Or.inl ⟨ha, ?_⟩
    cases b with
    | none =>
      obtain ⟨h1, h2, h3⟩ := h
      exact absurd (Or.inl (by omega)) hn
    | some q =>
      obtain ⟨h1, h2, h3, h4⟩ := h
      have e : lf w ch (some q) = some q := if_neg (fun z => hn (by
        rcases z with z | z
        · exact Or.inl (by omega)
        · exact Or.inr ⟨by omega, by omega, fun y => y.2 ha⟩))
      rw [e]
      exact ⟨h1, h2, h3, h4⟩
  · refine Or.inr ⟨ha, hc, ?_⟩
    rcases h with ⟨h1, h2, h3, h4⟩ | ⟨q, h1, h2, h3, h4, h5⟩ | ⟨q, h1, h2, h3, h4, h5⟩
    · have hgt : ceil < hrm w := by
        rcases Int.lt_or_le ceil (hrm w) with z | z
        · exact z
        · exfalso
          apply hn
          rcases Int.lt_or_le (hrm w) ceil with y | y
          · exact Or.inl (by omega)
          · exact Or.inr ⟨by omega, by omega, fun x => x.1 h2⟩
      refine Or.inl ⟨Or.inr ?_, h2, h3, h4⟩
      rcases h1 with rfl | ⟨q, rfl, hq⟩
      · exact ⟨_, rfl, hgt⟩
      · rw [lf_some]
        split
        · exact ⟨_, rfl, hgt⟩
        · exact ⟨_, rfl, hq⟩
    · subst h1
      have hge : ceil ≤ hrm w := by
        rcases Int.lt_or_le (hrm w) ceil with y | y
        · exact absurd (Or.inl (by omega)) hn
        · exact y
      refine Or.inr (Or.inl ?_)
      rw [lf_some]
      split
      · rename_i z
        exact ⟨_, rfl, by show hrm w = ceil; omega, h3, h4, h5⟩
      · exact ⟨_, rfl, h2, h3, h4, h5⟩
    · subst h1
      refine Or.inr (Or.inr ?_)
      rw [lf_some]
      split
      · rename_i z
        exact ⟨_, rfl, by show hrm w < ceil; omega, h3, h4, h5⟩
      · exact ⟨_, rfl, h2, h3, h4, h5⟩
theorem lf_yes {ch ord2 : Nat → Int} {b : Bs} (hh : 0 ≤ hrm w ∧ hrm w ≤ 1000) (ht : 0 ≤ w 0 3 ∧ w 0 3 ≤ 1000000) (hn : mbb al fnd bh be (hrm w) (w 0 3)) (ho : ∀ j, j < N → ord2 j = ch j) (h : cB al ceil fnd bh be ord N b) : cB al ceil 1 (if ¬ al = 0 ∧ hrm w < bh then -1 else hrm w) (w 0 3) ord2 N (lf w ch b) := by
  rcases h with ⟨ha, h⟩ | ⟨ha, hc, h⟩
  · refine Or.inl ⟨ha, ?_⟩
    rw [if_neg (fun z => z.1 ha)]
    cases b with
    | none => exact ⟨rfl, rfl, rfl, hh, ht, ho⟩
    | some q =>
      obtain ⟨h1, h2, h3, h4⟩ := h
      have e : lf w ch (some q) = some (hrm w, w 0 3, ch) := if_pos (by omega)
      rw [e]
      exact ⟨rfl, rfl, rfl, hh, ht, ho⟩
  · refine Or.inr ⟨ha, hc, ?_⟩
    rcases h with ⟨h1, h2, h3, h4⟩ | ⟨q, h1, h2, h3, h4, h5⟩ | ⟨q, h1, h2, h3, h4, h5⟩
    · have hle : hrm w ≤ ceil := by omega
      have e : ∃ q, lf w ch b = some q ∧ q.1 = hrm w := by
        rcases h1 with rfl | ⟨q, rfl, hq⟩
        · exact ⟨_, rfl, rfl⟩
        · have : lf w ch (some q) = some (hrm w, w 0 3, ch) := if_pos (by omega)
          exact ⟨_, this, rfl⟩
      obtain ⟨q, e1, e2⟩ := e
      by_cases hlt : hrm w < ceil
      · rw [if_pos ⟨by omega, by omega⟩]
        exact Or.inr (Or.inr ⟨q, e1, by omega, rfl, rfl, ht⟩)
      · rw [if_neg (fun z => by omega)]
        exact Or.inr (Or.inl ⟨q, e1, by omega, rfl, by omega, ht⟩)
    · subst h1
      have hlt : hrm w < ceil := by omega
      have : lf w ch (some q) = some (hrm w, w 0 3, ch) := if_pos (by omega)
      rw [this, if_pos ⟨by omega, by omega⟩]
      exact Or.inr (Or.inr ⟨_, rfl, hlt, rfl, rfl, ht⟩)
    · omega
theorem mbb_no {LH LE H E : Int} (h1 : LH ≤ H) (h2 : LE ≤ E) (h : ¬ mbb al fnd bh be LH LE) : ¬ mbb al fnd bh be H E := by
  intro z
  apply h
  rcases z with z | ⟨z1, z2, z3⟩
  · exact Or.inl (by omega)
  · rcases Int.lt_or_le LH bh with y | y
    · exact Or.inl y
    · exact Or.inr ⟨by omega, by omega, z3⟩
theorem prune {LH LE : Int} (hn : ¬ mbb al fnd bh be LH LE) : ∀ (n : Nat) (w : Wl) (T : Int) (ch : Nat → Int) (dep : Nat) (b : Bs), wOK T w → wS w → 200 ≤ T → T + 3 * n ≤ 90000 → un w = n → LH ≤ lbH w → LE ≤ lbE w → cB al ceil fnd bh be ord N b → cB al ceil fnd bh be ord N (exG n w ch dep b)
  | 0, w, T, ch, dep, b, hw, hs, h2, hT, hu, l1, l2, h => by
    obtain ⟨e1, e2⟩ := lb_full hw (by omega)
    have hh := hrm_bd hw
    have ht := hw.tm
    exact lf_no (by omega) (by omega) (mbb_no (by omega) (by omega) hn) h
  | n + 1, w, T, ch, dep, b, hw, hs, h2, hT, hu, l1, l2, h => by
    rw [exG]
    have key : ∀ k : Nat, k ≤ (w 0 2).toNat → cB al ceil fnd bh be ord N (fl (fun c b => if stt w c = -1 then b else exG n (fil w c) (c1 ch dep c) (dep + 1) b) b k) := by
      intro k
      induction k with
      | zero => intro _; exact h
      | succ k ih =>
        intro hk
        have hi := ih (by omega)
        rw [fl]
        split
        · exact hi
        · rename_i hst
          have hcl := hw.cells
          exact prune hn n (fil w k) (T + 3) _ _ _ (fil_ok hw h2 (by omega)) (fil_wS hs) (by omega) (by omega) (by rw [fil_un hw hst]; omega) (Int.le_trans l1 (lbH_mono hw hs (by omega) (by omega) hst)) (Int.le_trans l2 (lbE_mono hw hs (by omega) hst)) hi
    exact key _ (Nat.le_refl _)
/-- no order where too few loads come -/
theorem exG_none (ch : Nat → Int) : ∀ (n : Nat) (w : Wl) (T : Int) (ch : Nat → Int) (dep : Nat) (b : Bs), wOK T w → 200 ≤ T → un w = ((n + 1 : Nat) : Int) → bAt w (allN w) (w 0 7).toNat = -1 → exG (n + 1) w ch dep b = b := by
  intro n
  induction n with
  | zero =>
    intro w T ch dep b hw h2 hu hA
    have hcl := hw.cells
    have key : ∀ k : Nat, k ≤ (w 0 2).toNat → fl (fun c b => if stt w c = -1 then b else exG 0 (fil w c) (c1 ch dep c) (dep + 1) b) b k = b := by
      intro k
      induction k with
      | zero => intro _; rfl
      | succ k ih =>
        intro hk
        rw [fl, ih (by omega)]
        split
        · rfl
        · rename_i hst
          exfalso
          have hok := fil_ok hw h2 (c := k) (by omega)
          have e1 := fil_un hw hst
          have e2 := (used_full hok (by omega)).2
          rw [fil_used hw (by omega) hst, fil_allN] at e2
          have := (stt_can hst).2.1
          rw [e2] at this
          exact this hA
    rw [exG]
    exact key _ (Nat.le_refl _)
  | succ n ihn =>
    intro w T ch dep b hw h2 hu hA
    have hcl := hw.cells
    have key : ∀ k : Nat, k ≤ (w 0 2).toNat → fl (fun c b => if stt w c = -1 then b else exG (n + 1) (fil w c) (c1 ch dep c) (dep + 1) b) b k = b := by
      intro k
      induction k with
      | zero => intro _; rfl
      | succ k ih =>
        intro hk
        rw [fl, ih (by omega)]
        split
        · rfl
        · rename_i hst
          exact ihn (fil w k) (T + 3) _ _ _ (fil_ok hw h2 (by omega)) (by omega) (by rw [fil_un hw hst]; omega) (by rw [fil_allN, fil_bAt]; exact hA)
    rw [exG]
    exact key _ (Nat.le_refl _)
/-- an order names cells -/
theorem exG_cells {C : Int} : ∀ (n : Nat) (w : Wl) (ch : Nat → Int) (dep : Nat) (b : Bs), w 0 2 = C → (∀ j, j < dep → 0 ≤ ch j ∧ ch j < C) → (∀ q, b = some q → ∀ j, j < dep + n → 0 ≤ q.2.2 j ∧ q.2.2 j < C) → ∀ q, exG n w ch dep b = some q → ∀ j, j < dep + n → 0 ≤ q.2.2 j ∧ q.2.2 j < C
  | 0, w, ch, dep, b, hC, hch, hb, q, hq, j, hj => by
    rw [exG] at hq
    cases b with
    | none =>
      have : q = (hrm w, w 0 3, ch) := (Option.some.inj hq).symm
      rw [this]
      exact hch j (by omega)
    | some r =>
      rw [lf_some] at hq
      split at hq
      · have : q = (hrm w, w 0 3, ch) := (Option.some.inj hq).symm
        rw [this]
        exact hch j (by omega)
      · exact hb q hq j hj
  | n + 1, w, ch, dep, b, hC, hch, hb, q, hq, j, hj => by
    rw [exG] at hq
    have key : ∀ k : Nat, k ≤ (w 0 2).toNat → ∀ q, fl (fun c b => if stt w c = -1 then b else exG n (fil w c) (c1 ch dep c) (dep + 1) b) b k = some q → ∀ j, j < dep + (n + 1) → 0 ≤ q.2.2 j ∧ q.2.2 j < C := by
      intro k
      induction k with
      | zero => intro _; exact hb
      | succ k ih =>
        intro hk
        have hi := ih (by omega)
        rw [fl]
        split
        · exact hi
        · intro q hq j hj
          refine exG_cells n (fil w k) (c1 ch dep k) (dep + 1) _ (by rw [fil_n (by decide)]; exact hC) (fun j hj => ?_) (fun q hq j hj => hi q hq j (by omega)) q hq j (by omega)
          unfold c1
          split
          · omega
          · exact hch j (by omega)
    exact key _ (Nat.le_refl _) q hq j hj
end P4
