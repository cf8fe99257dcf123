/-! The state that class and model stand for, and how each keeps it -/
abbrev Hs : Type := Nat × (Nat → Wl)
abbrev Bk : Type := Nat × (Nat → Int) × (Nat → Int)
abbrev Ig : Type := (Nat → Int) × (Nat → Int) × (Nat → Wl)
def hiR (σ : pM) (H : Hs) : Prop := σ 26 0 = (H.1 : Int) ∧ ∃ p : Nat, p < 20 ∧ σ 26 1 = (p : Int) ∧ ∀ i, i < H.1 → cv σ (28 + 6 * ((p + 19 - i) % 20)) = H.2 i
def bkR (σ : pM) (B : Bk) : Prop := σ 148 0 = (B.1 : Int) ∧ ∀ i, i < B.1 → σ 149 i = B.2.1 i ∧ σ 150 i = B.2.2 i
def imR (σ : pM) (I : Ig) : Prop := ∀ i, i < 2 → σ (152 + 7 * i) 0 = I.1 i ∧ (I.1 i = 1 → σ (152 + 7 * i) 1 = I.2.1 i ∧ cv σ (153 + 7 * i) = I.2.2 i)
def CI (σ : pM) (w : Wl) (H : Hs) (s : Int) (B : Bk) (I : Ig) : Prop := cv σ 2 = w ∧ σ 1 7 = s ∧ (σ 1 8 = 0 ∨ (σ 1 8 = 1 ∧ plK σ 14 w)) ∧ hiR σ H ∧ bkR σ B ∧ imR σ I
def MI (σ : pM) (w : Wl) (H : Hs) (s : Int) (B : Bk) (I : Ig) : Prop := mv σ 0 = w ∧ σ 166 4 = s ∧ (σ 166 3 = (H.1 : Int) ∧ ∀ i, i < H.1 → mv σ (260 + 52 * (H.1 - 1 - i)) = H.2 i) ∧ (σ 166 5 = (B.1 : Int) ∧ ∀ i, i < B.1 → σ 170 i = B.2.1 i ∧ σ 171 i = B.2.2 i) ∧ ∀ i, i < 2 → σ 169 i = I.1 i ∧ (I.1 i = 1 → σ 168 i = I.2.1 i ∧ mv σ (156 + 52 * i) = I.2.2 i)
def aOK (T : Int) (w : Wl) (H : Hs) (s : Int) (B : Bk) (I : Ig) : Prop := (wOK T w ∧ wS w) ∧ (H.1 ≤ 20 ∧ ∀ i, i < H.1 → wOK T (H.2 i) ∧ wS (H.2 i)) ∧ (0 ≤ s ∧ s < 2147483648) ∧ (B.1 ≤ 20 ∧ ∀ i, i < B.1 → (0 ≤ B.2.1 i ∧ B.2.1 i < 27) ∧ (B.2.2 i = 0 ∨ B.2.2 i = 1)) ∧ ∀ i, i < 2 → (I.1 i = 0 ∨ I.1 i = 1) ∧ (I.1 i = 1 → (0 ≤ I.2.1 i ∧ I.2.1 i < 2147483648) ∧ wOK T (I.2.2 i) ∧ wS (I.2.2 i))
theorem wOK.le {T T2 : Int} {w : Wl} (h : wOK T w) (hT : T ≤ T2) : wOK T2 w := by
  obtain ⟨h1, h2, h3, h4, h5⟩ := h
  exact ⟨h1, h2, h3, ⟨h4.1, by omega⟩, h5⟩
theorem aOK.le {T T2 : Int} {w : Wl} {H : Hs} {s : Int} {B : Bk} {I : Ig} (h : aOK T w H s B I) (hT : T ≤ T2) : aOK T2 w H s B I := by
  obtain ⟨⟨h1, h2⟩, ⟨h3, h4⟩, h5, h6, h7⟩ := h
  exact ⟨⟨h1.le hT, h2⟩, ⟨h3, fun i hi => ⟨(h4 i hi).1.le hT, (h4 i hi).2⟩⟩, h5, h6, fun i hi => ⟨(h7 i hi).1, fun q => ⟨((h7 i hi).2 q).1, ((h7 i hi).2 q).2.1.le hT, ((h7 i hi).2 q).2.2⟩⟩⟩
def FrC (σ σ2 : pM) : Prop := ∀ x, (x = 0 ∨ 166 ≤ x) → σ2 x = σ x
def FrM (σ σ2 : pM) : Prop := ∀ x, x < 166 → σ2 x = σ x
section S1
variable {d : Nat} {g : pG} {σ σ2 : pM} {T : Int} {w w2 : Wl} {H : Hs} {s : Int} {B : Bk} {I : Ig}
theorem hiR.co (h : ∀ x, 26 ≤ x → x < 148 → σ2 x = σ x) (hh : hiR σ H) : hiR σ2 H := by
  obtain ⟨h1, p, h2, h3, h4⟩ := hh
  refine ⟨by rw [h 26 (by decide) (by decide)]; exact h1, p, h2, by rw [h 26 (by decide) (by decide)]; exact h3, fun i hi => ?_⟩
  rw [← h4 i hi]
  exact cv_ne (fun f hf => h _ (by omega) (by omega))
theorem bkR.co (h : ∀ x, 148 ≤ x → x < 151 → σ2 x = σ x) (hh : bkR σ B) : bkR σ2 B := by
  obtain ⟨h1, h2⟩ := hh
  exact ⟨by rw [h 148 (by decide) (by decide)]; exact h1, fun i hi => by rw [h 149 (by decide) (by decide), h 150 (by decide) (by decide)]; exact h2 i hi⟩
theorem imR.co (h : ∀ x, 152 ≤ x → x < 166 → σ2 x = σ x) (hh : imR σ I) : imR σ2 I := by
  intro i hi
  obtain ⟨h1, h2⟩ := hh i hi
  have e : σ2 (152 + 7 * i) = σ (152 + 7 * i) := h _ (by omega) (by omega)
  rw [e]
  refine ⟨h1, fun q => ⟨(h2 q).1, ?_⟩⟩
  rw [← (h2 q).2]
  exact cv_ne (fun f hf => h _ (by omega) (by omega))
theorem CI.co (h : ∀ x, ((1 ≤ x ∧ x ≤ 7) ∨ (14 ≤ x ∧ x ≤ 19) ∨ (26 ≤ x ∧ x < 166)) → σ2 x = σ x) (hc : CI σ w H s B I) : CI σ2 w H s B I := by
  obtain ⟨h1, h2, h3, h4, h5, h6⟩ := hc
  refine ⟨?_, by rw [h 1 (by omega)]; exact h2, ?_, h4.co (fun x q1 q2 => h x (by omega)), h5.co (fun x q1 q2 => h x (by omega)), h6.co (fun x q1 q2 => h x (by omega))⟩
  · rw [← h1]
    exact cv_ne (fun f hf => h _ (by omega))
  · rw [h 1 (by omega)]
    unfold plK
    rw [h 14 (by omega), h (14 + 4) (by omega)]
    exact h3
theorem MI.co (h3 : σ2 166 3 = σ 166 3) (h4 : σ2 166 4 = σ 166 4) (h5 : σ2 166 5 = σ 166 5) (hx : ∀ x, 168 ≤ x → x < 172 → σ2 x = σ x) (hw : ∀ i, (i < 52 ∨ 156 ≤ i) → σ2 167 i = σ 167 i) (hm : MI σ w H s B I) : MI σ2 w H s B I := by
  obtain ⟨m1, m2, ⟨m3, m4⟩, ⟨m5, m6⟩, m7⟩ := hm
  have row : ∀ r, (r = 0 ∨ 156 ≤ r) → mv σ2 r = mv σ r := fun r hr => mv_cong (fun i hi => hw _ (by omega))
  refine ⟨by rw [row 0 (Or.inl rfl)]; exact m1, by rw [h4]; exact m2, ⟨by rw [h3]; exact m3, fun i hi => by rw [row _ (by omega)]; exact m4 i hi⟩, ⟨by rw [h5]; exact m5, fun i hi => by rw [hx 170 (by decide) (by decide), hx 171 (by decide) (by decide)]; exact m6 i hi⟩, fun i hi => ?_⟩
  rw [hx 169 (by decide) (by decide), hx 168 (by decide) (by decide), row _ (by omega)]
  exact m7 i hi
theorem MI.frC (h : FrC σ σ2) (hm : MI σ w H s B I) : MI σ2 w H s B I := MI.co (by rw [h 166 (by decide)]) (by rw [h 166 (by decide)]) (by rw [h 166 (by decide)]) (fun x q _ => h x (by omega)) (fun i _ => by rw [h 167 (by decide)]) hm
theorem MI.fk (h : Fk σ σ2) (hm : MI σ w H s B I) : MI σ2 w H s B I := MI.co (h.2.1 3 (by decide) (by decide) (by decide)) (h.2.1 4 (by decide) (by decide) (by decide)) (h.2.1 5 (by decide) (by decide) (by decide)) (fun x q1 q2 => h.1 x (by omega) (by omega) (by omega) (by omega) (by omega)) (fun i hi => h.2.2 i (by omega)) hm
theorem Fk.frM (h : Fk σ σ2) : FrM σ σ2 := fun x hx => h.1 x (by omega) (by omega) (by omega) (by omega) (by omega)
theorem Fm.frM {r : Nat} (h : Fm r σ σ2) : FrM σ σ2 := fun x hx => h.1 x (by omega)
theorem FrM.tr {σ3 : pM} (h : FrM σ σ2) (h2 : FrM σ2 σ3) : FrM σ σ3 := fun x hx => (h2 x hx).trans (h x hx)
theorem FrC.tr {σ3 : pM} (h : FrC σ σ2) (h2 : FrC σ2 σ3) : FrC σ σ3 := fun x hx => (h2 x hx).trans (h x hx)
theorem FrM.rf : FrM σ σ := fun _ _ => rfl
theorem FrC.rf : FrC σ σ := fun _ _ => rfl
theorem Fr.frC {o : Nat} (ho : 0 < o ∧ o + 5 < 166) (h : Fr o σ σ2) : FrC σ σ2 := fun x hx => h x (by omega)
/-- the wall changes, once planned is taken back -/
theorem CI.wall (hc : CI σ w H s B I) (h8 : σ 1 8 = 0) (hf : Fr 2 σ σ2) (hv : cv σ2 2 = w2) : CI σ2 w2 H s B I := by
  obtain ⟨h1, h2, h3, h4, h5, h6⟩ := hc
  refine ⟨hv, by rw [hf 1 (by decide)]; exact h2, Or.inl (by rw [hf 1 (by decide)]; exact h8), h4.co (fun x q1 q2 => hf x (by omega)), h5.co (fun x q1 q2 => hf x (by omega)), h6.co (fun x q1 q2 => hf x (by omega))⟩
theorem MI.wall (hm : MI σ w H s B I) (hf : Fm 0 σ σ2) (hv : mv σ2 0 = w2) : MI σ2 w2 H s B I := by
  obtain ⟨m1, m2, ⟨m3, m4⟩, ⟨m5, m6⟩, m7⟩ := hm
  have row : ∀ r, 52 ≤ r → mv σ2 r = mv σ r := fun r hr => mv_cong (fun i hi => hf.2 _ (by omega))
  refine ⟨hv, by rw [hf.1 166 (by decide)]; exact m2, ⟨by rw [hf.1 166 (by decide)]; exact m3, fun i hi => by rw [row _ (by omega)]; exact m4 i hi⟩, ⟨by rw [hf.1 166 (by decide)]; exact m5, fun i hi => by rw [hf.1 170 (by decide), hf.1 171 (by decide)]; exact m6 i hi⟩, fun i hi => ?_⟩
  rw [hf.1 169 (by decide), hf.1 168 (by decide), row _ (by omega)]
  exact m7 i hi
def psh (w : Wl) (H : Hs) : Hs := (min (H.1 + 1) 20, fun i => if i = 0 then w else H.2 (i - 1))
theorem c_within {a b c : Int} (ha : iR a) (hb : iR b) (hc : iR c) : Ca (d + 1) yX5_within [vI a, vI b, vI c] g σ [vI (b2 (b ≤ a ∧ a ≤ c))] g σ := by
  refine ca_in cd_X5_within bd_X5_within rfl (by decide) (Nat.le_of_ble_eq_true rfl) (fun Q P hP hQ => ?_)
  refine k_X5_within_0 hP a b c ⟨ha, hb, fun h => ?_, fun h => ⟨ha, hc, fun h2 => ?_, fun h2 => ?_⟩⟩
  · rwa [b2_f (by omega)] at hQ
  · rwa [b2_f (by omega)] at hQ
  · rwa [b2_t (by omega)] at hQ
theorem hiR_w {p : Nat} (hp : p < 20) {i : Nat} (hi : i < 20) : (p + 19 - i) % 20 < 20 := Nat.mod_lt _ (by decide)
theorem c_bef (hG : gAll g) (hc : CI σ w H s B I) (hn : H.1 ≤ 20) : ∃ σ2, Ca (d + 4) yX5_beforeDeed [vR (some 1)] g σ [] g σ2 ∧ CI σ2 w (psh w H) s B I ∧ σ2 1 8 = 0 ∧ (∀ x, x ≠ 1 → (x < 26 ∨ 148 ≤ x) → σ2 x = σ x) := by
  obtain ⟨h1, h2, h3, ⟨h4, p, h5, h6, h7⟩, h8, h9⟩ := hc
  obtain ⟨s1, q1, q2, q3⟩ := c_copyFrom (d := d) (σ := σ) (o := 28 + 6 * p) (a := 2) (hG.H p h5).2 hG.W_2 (by omega)
  have f26 : s1 26 = σ 26 := q3 26 (by omega)
  -- where the next one goes
  let p2 : Nat := if 20 ≤ p + 1 then 0 else p + 1
  have hp2 : p2 < 20 ∧ (p2 + 19) % 20 = p ∧ ∀ i, i < 19 → (p2 + 19 - (i + 1)) % 20 = (p + 19 - i) % 20 := by
    show (if 20 ≤ p + 1 then 0 else p + 1) < 20 ∧ ((if 20 ≤ p + 1 then 0 else p + 1) + 19) % 20 = p ∧ ∀ i, i < 19 → ((if 20 ≤ p + 1 then 0 else p + 1) + 19 - (i + 1)) % 20 = (p + 19 - i) % 20
    split
    · refine ⟨by omega, by omega, fun i hi => by omega⟩
    · refine ⟨by omega, by omega, fun i hi => by omega⟩
  let s2 : pM := up2 (up2 s1 26 1 (p2 : Int)) 26 0 (min ((H.1 : Int) + 1) 20)
  have x2 : ∀ x, x ≠ 26 → s2 x = s1 x := fun x hx => by
    show (up2 (up2 s1 26 1 (p2 : Int)) 26 0 _) x = _
    rw [up2_ne hx, up2_ne hx]
  have rem : Ca (d + 3) yX1_remember [vR (some 26), vR (some 2)] g σ [] g s2 := by
    refine ca_in cd_X1_remember bd_X1_remember rfl (by decide) (Nat.le_of_ble_eq_true rfl) (fun Q P hP hQ => ?_)
    refine k_X1_remember_0 hP 2 hG hG.W_2 ?_
    rw [h6, Int.toNat_natCast]
    refine ⟨⟨by omega, by omega⟩, s1, q1, ?_⟩
    rw [f26, h6]
    have e0 : ∀ v : Int, (up2 s1 26 1 v) 26 0 = (H.1 : Int) := fun v => by
      have : (up2 s1 26 1 v) 26 0 = s1 26 0 := by simp [up2]
      rw [this, f26, h4]
    refine ⟨rO (by omega) (by omega), fun z => ?_, fun z => ?_⟩
    · rw [e0]
      refine ⟨_, c_min (d := d + 1) (rO (by omega) (by omega)) (by decide), ?_⟩
      have : s2 = up2 (up2 s1 26 1 0) 26 0 (min ((H.1 : Int) + 1) 20) := by
        show up2 (up2 s1 26 1 ((if 20 ≤ p + 1 then 0 else p + 1 : Nat) : Int)) 26 0 _ = _
        rw [if_pos (by omega)]
        rfl
      rw [← this]; exact hQ
    · rw [e0]
      refine ⟨_, c_min (d := d + 1) (rO (by omega) (by omega)) (by decide), ?_⟩
      have : s2 = up2 (up2 s1 26 1 ((p : Int) + 1)) 26 0 (min ((H.1 : Int) + 1) 20) := by
        show up2 (up2 s1 26 1 ((if 20 ≤ p + 1 then 0 else p + 1 : Nat) : Int)) 26 0 _ = _
        rw [if_neg (by omega)]
        rfl
      rw [← this]; exact hQ
  have all : ∀ x, x ≠ 1 → x ≠ 26 → (x < 28 + 6 * p ∨ 28 + 6 * p + 5 < x) → (up2 s2 1 8 0) x = σ x := fun x n1 n2 n3 => by
    rw [up2_ne n1, x2 x n2, q3 x n3]
  have e1 : (up2 s2 1 8 0) 26 = s2 26 := up2_ne (by decide)
  refine ⟨up2 s2 1 8 0, ca_in cd_X5_beforeDeed bd_X5_beforeDeed rfl (by decide) (Nat.le_of_ble_eq_true rfl) (fun Q P hP hQ => k_X5_beforeDeed_0 hP hG ⟨s2, rem, hQ⟩), ⟨?_, ?_, Or.inl (by simp [up2]), ⟨?_, p2, hp2.1, ?_, fun i hi => ?_⟩, h8.co (fun x n1 n2 => all x (by omega) (by omega) (by omega)), h9.co (fun x n1 n2 => all x (by omega) (by omega) (by omega))⟩, by simp [up2], fun x n1 n2 => all x (by omega) (by omega) (by omega)⟩
  · rw [← h1]
    exact cv_ne (fun f hf => all _ (by omega) (by omega) (by omega))
  · have : (up2 s2 1 8 0) 1 7 = s2 1 7 := by simp [up2]
    rw [this, x2 1 (by decide), q3 1 (by omega), h2]
  · rw [e1]
    show (up2 (up2 s1 26 1 (p2 : Int)) 26 0 (min ((H.1 : Int) + 1) 20)) 26 0 = ((min (H.1 + 1) 20 : Nat) : Int)
    have : (up2 (up2 s1 26 1 (p2 : Int)) 26 0 (min ((H.1 : Int) + 1) 20)) 26 0 = min ((H.1 : Int) + 1) 20 := by simp [up2]
    rw [this]
    omega
  · rw [e1]
    show (up2 (up2 s1 26 1 (p2 : Int)) 26 0 (min ((H.1 : Int) + 1) 20)) 26 1 = _
    simp [up2]
  · have hi2 : i < min (H.1 + 1) 20 := hi
    show _ = (if i = 0 then w else H.2 (i - 1))
    by_cases h0 : i = 0
    · subst h0
      rw [if_pos rfl, Nat.sub_zero, hp2.2.1, ← h1, ← q2]
      exact cv_ne (fun f hf => by rw [up2_ne (by omega), x2 _ (by omega)])
    · rw [if_neg h0]
      obtain ⟨j, rfl⟩ : ∃ j, i = j + 1 := ⟨i - 1, by omega⟩
      rw [hp2.2.2 j (by omega), Nat.add_sub_cancel, ← h7 j (by omega)]
      have hne : (p + 19 - j) % 20 ≠ p := by omega
      have hlt : (p + 19 - j) % 20 < 20 := Nat.mod_lt _ (by decide)
      exact cv_ne (fun f hf => all _ (by omega) (by omega) (by omega))
theorem c_plan (hG : gAll g) (hc : CI σ w H s B I) (hw : wOK T w) (hs : wS w) (h200 : 200 ≤ T) (hT : T ≤ 89000) : ∃ σ2, Ca (d + 14) yX5_plan [vR (some 1)] g σ [vR (some 14)] g σ2 ∧ CI σ2 w H s B I ∧ plK σ2 14 w ∧ (∀ x, x ≠ 1 → (x < 14 ∨ 19 < x) → σ2 x = σ x) := by
  obtain ⟨h1, h2, h3, h4, h5, h6⟩ := hc
  rcases h3 with h3 | ⟨h3, hk⟩
  · obtain ⟨s1, q1, q2, q3, q4, q5⟩ := c_search (d := d) (σ := σ) (o := 14) (a := 2) (T := T) (al := 0) (ceil := 1000000000) hG.P_14 hG.W_2 (by decide) (by rw [h1]; exact hw) (by rw [h1]; exact hs) h200 hT (Or.inl ⟨rfl, rfl⟩)
    rw [h1] at q2 q3
    have all : ∀ x, x ≠ 1 → (x < 14 ∨ 19 < x) → (up2 s1 1 8 1) x = σ x := fun x n1 n2 => by rw [up2_ne n1, q5 x (by omega)]
    have hk : plK (up2 s1 1 8 1) 14 w := by
      unfold plK
      rw [up2_ne (by decide), up2_ne (by decide)]
      refine ⟨?_, q3⟩
      rcases q2 with ⟨-, q⟩ | ⟨q, -⟩
      · exact q
      · omega
    refine ⟨up2 s1 1 8 1, ca_in cd_X5_plan bd_X5_plan rfl (by decide) (Nat.le_of_ble_eq_true rfl) (fun Q P hP hQ => k_X5_plan_0 hP hG ⟨by rw [h3]; decide, fun z => absurd h3 z, fun _ => ⟨s1, q1, hQ⟩⟩), ⟨?_, ?_, Or.inr ⟨by simp [up2], hk⟩, h4.co (fun x n1 n2 => all x (by omega) (by omega)), h5.co (fun x n1 n2 => all x (by omega) (by omega)), h6.co (fun x n1 n2 => all x (by omega) (by omega))⟩, hk, all⟩
    · rw [← h1]
      exact cv_ne (fun f hf => all _ (by omega) (by omega))
    · have : (up2 s1 1 8 1) 1 7 = s1 1 7 := by simp [up2]
      rw [this, q5 1 (by decide), h2]
  · exact ⟨σ, ca_in cd_X5_plan bd_X5_plan rfl (by decide) (Nat.le_of_ble_eq_true rfl) (fun Q P hP hQ => k_X5_plan_0 hP hG ⟨by rw [h3]; decide, fun _ => hQ, fun z => absurd (fun q => by rw [h3] at q; exact absurd q (by decide)) z⟩), ⟨h1, h2, Or.inr ⟨h3, hk⟩, h4, h5, h6⟩, hk, fun _ _ _ => rfl⟩
end S1
