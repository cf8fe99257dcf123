/-! The search: all orders gone through (pure), and the model's way of it -/
abbrev Bs : Type := Option (Int × Int × (Nat → Int))
def fl {β : Type} (f : Nat → β → β) (b : β) : Nat → β
  | 0 => b
  | n + 1 => f n (fl f b n)
def c1 (ch : Nat → Int) (dep c : Nat) : Nat → Int := fun j => if j = dep then (c : Int) else ch j
def lf (w : Wl) (ch : Nat → Int) : Bs → Bs
  | none => some (hrm w, w 0 3, ch)
  | some q => if hrm w < q.1 ∨ (hrm w = q.1 ∧ w 0 3 < q.2.1) then some (hrm w, w 0 3, ch) else some q
def exG : Nat → Wl → (Nat → Int) → Nat → Bs → Bs
  | 0, w, ch, _, b => lf w ch b
  | n + 1, w, ch, dep, b => fl (fun c b => if stt w c = -1 then b else exG n (fil w c) (c1 ch dep c) (dep + 1) b) b (w 0 2).toNat
/-- what the model has found -/
def mB2 (σ : pM) (N : Nat) : Bs → Prop
  | none => σ 166 8 = -1 ∧ σ 166 9 = -1 ∧ σ 166 10 = -1
  | some q => σ 166 8 = (N : Int) ∧ σ 166 9 = q.1 ∧ σ 166 10 = q.2.1 ∧ (0 ≤ q.1 ∧ q.1 ≤ 1000000) ∧ (0 ≤ q.2.1 ∧ q.2.1 ≤ 1000000) ∧ ∀ j, j < N → σ 172 j = q.2.2 j
/-- nothing changes but the row that is tried and what the search keeps -/
def Fk (σ σ2 : pM) : Prop := (∀ x, x ≠ 166 → x ≠ 167 → x ≠ 172 → x ≠ 173 → x ≠ 174 → σ2 x = σ x) ∧ (∀ i, i ≠ 8 → i ≠ 9 → i ≠ 10 → σ2 166 i = σ 166 i) ∧ ∀ i, (i < 52 ∨ 104 ≤ i) → σ2 167 i = σ 167 i
theorem Fk.rf {σ : pM} : Fk σ σ := ⟨fun _ _ _ _ _ _ => rfl, fun _ _ _ _ => rfl, fun _ _ => rfl⟩
theorem Fk.tr {σ σ2 σ3 : pM} (h : Fk σ σ2) (h2 : Fk σ2 σ3) : Fk σ σ3 := ⟨fun x a b c e f => (h2.1 x a b c e f).trans (h.1 x a b c e f), fun i a b c => (h2.2.1 i a b c).trans (h.2.1 i a b c), fun i a => (h2.2.2 i a).trans (h.2.2 i a)⟩
theorem Fk.m {σ σ2 : pM} (h : Fm 52 σ σ2) : Fk σ σ2 := ⟨fun x _ b _ _ _ => h.1 x b, fun i _ _ _ => by rw [h.1 166 (by decide)], fun i a => h.2 i a⟩
theorem Fk.up {σ : pM} {a i : Nat} {v : Int} (h : a = 172 ∨ a = 173 ∨ a = 174 ∨ (a = 166 ∧ (i = 8 ∨ i = 9 ∨ i = 10)) ∨ (a = 167 ∧ 52 ≤ i ∧ i < 104)) : Fk σ (up2 σ a i v) := by
  refine ⟨fun x h1 h2 h3 h4 h5 => up2_ne (by omega), fun j h1 h2 h3 => ?_, fun j h1 => ?_⟩
  · unfold up2
    split
    · split
      · omega
      · rfl
    · rfl
  · unfold up2
    split
    · split
      · omega
      · rfl
    · rfl
section M4
variable {d : Nat} {g : pG} {σ : pM} {T : Int}
theorem c_weighs {N : Nat} {b : Bs} {ch : Nat → Int} (hG : gAll g) (hw : wOK T (mv σ 52)) (hT : T ≤ 90000) (hN : N ≤ 9) (hb : mB2 σ N b) (hch : ∀ j, j < N → σ 173 j = ch j) : ∃ σ2, Ca (d + 5) yX6_weighs [vR (some 166), vI (N : Int)] g σ [] g σ2 ∧ mB2 σ2 N (lf (mv σ 52) ch b) ∧ (∀ x, x ≠ 166 → x ≠ 172 → σ2 x = σ x) ∧ Fk σ σ2 := by
  have hm : Ca (d + 4) yX6_harm [vR (some 166), vI 52, vI 0] g σ [vI (hrm (mv σ 52))] g σ := c_mharm (s := false) (r := 52) hG hw hT (by decide)
  have hh := hrm_bd hw
  have htm := hw.tm
  have e54 : σ 167 54 = mv σ 52 0 3 := (m_tm (σ := σ) (r := 52)).symm
  -- the better one is kept
  have keep : ∀ (Q : pQ) (P : pP), Clo (pCall (d + 4)) yX6_weighs cX6_weighs none 5 0 0 Q P → Q [] g (cR (up2 (up2 (up2 σ 166 8 (N : Int)) 166 9 (hrm (mv σ 52))) 166 10 (mv σ 52 0 3)) 173 172 N) → P 80 [(0, vR (some 166)), (1, vI (N : Int)), (4, vI 0)] [] g (up2 (up2 (up2 σ 166 8 (N : Int)) 166 9 (hrm (mv σ 52))) 166 10 ((up2 (up2 σ 166 8 (N : Int)) 166 9 (hrm (mv σ 52))) 167 54)) 0 0 := by
    intro Q P hP hQ
    rw [show (up2 (up2 σ 166 8 (N : Int)) 166 9 (hrm (mv σ 52))) 167 54 = mv σ 52 0 3 from e54]
    have loop : ∀ (m n : Nat), n + m = N → P 80 [(0, vR (some 166)), (1, vI (N : Int)), (4, vI (n : Int))] [] g (cR (up2 (up2 (up2 σ 166 8 (N : Int)) 166 9 (hrm (mv σ 52))) 166 10 (mv σ 52 0 3)) 173 172 n) 0 0 := by
      intro m
      induction m with
      | zero =>
        intro n hn
        refine k_X6_weighs_80 hP _ _ hG ⟨rO (by omega) (by omega), rO (by omega) (by omega), fun _ => ?_, fun h => absurd (by omega) h⟩
        rw [show n = N by omega]
        exact hQ
      | succ m ih =>
        intro n hn
        have hi := ih (n + 1) (by omega)
        refine k_X6_weighs_80 hP _ _ hG ⟨rO (by omega) (by omega), rO (by omega) (by omega), fun h => absurd h (by omega), fun _ => ⟨⟨by omega, by omega⟩, ⟨by omega, by omega⟩, ?_⟩⟩
        rw [Int.toNat_natCast, cR_s _ n (by decide)]
        exact hi
    have h := loop N 0 (by omega)
    rw [cR_0] at h
    exact h
  have kept : mB2 (cR (up2 (up2 (up2 σ 166 8 (N : Int)) 166 9 (hrm (mv σ 52))) 166 10 (mv σ 52 0 3)) 173 172 N) N (some (hrm (mv σ 52), mv σ 52 0 3, ch)) := by
    refine ⟨rfl, rfl, rfl, ⟨hh.1, by show hrm (mv σ 52) ≤ 1000000; omega⟩, ⟨htm.1, by show mv σ 52 0 3 ≤ 1000000; omega⟩, fun j hj => ?_⟩
    show (if j < N then σ 173 j else _) = _
    rw [if_pos hj, hch j hj]
  have fr1 : ∀ x, x ≠ 166 → x ≠ 172 → (cR (up2 (up2 (up2 σ 166 8 (N : Int)) 166 9 (hrm (mv σ 52))) 166 10 (mv σ 52 0 3)) 173 172 N) x = σ x := by
    intro x h1 h2
    funext j
    simp [cR, up2, h1, h2]
  have fr2 : Fk σ (cR (up2 (up2 (up2 σ 166 8 (N : Int)) 166 9 (hrm (mv σ 52))) 166 10 (mv σ 52 0 3)) 173 172 N) := by
    refine ((((Fk.up (a := 166) (i := 8) (by omega)).tr (Fk.up (a := 166) (i := 9) (by omega))).tr (Fk.up (a := 166) (i := 10) (by omega)))).tr ⟨fun x _ _ h3 _ _ => ?_, fun i _ _ _ => rfl, fun i _ => rfl⟩
    funext j
    simp [cR, h3]
  match b, hb with
  | none, hb =>
    obtain ⟨b1, b2, b3⟩ := hb
    refine ⟨_, ca_in cd_X6_weighs bd_X6_weighs rfl (by decide) (Nat.le_of_ble_eq_true rfl) (fun Q P hP hQ => ?_), kept, fr1, fr2⟩
    refine k_X6_weighs_0 hP _ hG ⟨_, hm, ?_, fun _ => keep Q P hP hQ, fun h => absurd b1 h⟩
    rw [b1]; decide
  | some q, hb =>
    obtain ⟨b1, b2, b3, b4, b5, b6⟩ := hb
    have i8 : iR (σ 166 8) := by rw [b1]; exact rO (by omega) (by omega)
    have i9 : iR (σ 166 9) := by rw [b2]; exact rO (by omega) (by omega)
    have i10 : iR (σ 166 10) := by rw [b3]; exact rO (by omega) (by omega)
    have ih : iR (hrm (mv σ 52)) := rO (by omega) (by omega)
    have i54 : iR (σ 167 54) := by rw [e54]; exact rO (by omega) (by omega)
    by_cases hq : hrm (mv σ 52) < q.1 ∨ (hrm (mv σ 52) = q.1 ∧ mv σ 52 0 3 < q.2.1)
    · rw [show lf (mv σ 52) ch (some q) = some (hrm (mv σ 52), mv σ 52 0 3, ch) from if_pos hq]
      refine ⟨_, ca_in cd_X6_weighs bd_X6_weighs rfl (by decide) (Nat.le_of_ble_eq_true rfl) (fun Q P hP hQ => ?_), kept, fr1, fr2⟩
      exact k_X6_weighs_0 hP _ hG ⟨_, hm, i8, fun h => absurd h (by omega), fun _ => ⟨ih, i9, fun _ => keep Q P hP hQ, fun h1 => ⟨ih, i9, fun h2 => absurd h2 (by omega), fun _ => ⟨i54, i10, fun h3 => absurd h3 (by omega), fun _ => keep Q P hP hQ⟩⟩⟩⟩
    · rw [show lf (mv σ 52) ch (some q) = some q from if_neg hq]
      refine ⟨σ, ca_in cd_X6_weighs bd_X6_weighs rfl (by decide) (Nat.le_of_ble_eq_true rfl) (fun Q P hP hQ => ?_), ⟨b1, b2, b3, b4, b5, b6⟩, fun _ _ _ => rfl, Fk.rf⟩
      exact k_X6_weighs_0 hP _ hG ⟨_, hm, i8, fun h => absurd h (by omega), fun _ => ⟨ih, i9, fun h1 => absurd h1 (by omega), fun h1 => ⟨ih, i9, fun _ => hQ, fun h2 => ⟨i54, i10, fun _ => hQ, fun h3 => absurd (by omega) h3⟩⟩⟩⟩
end M4
theorem kk_X6_seeks_0 {d : Nat} {Q : pQ} {P : pP} {g : pG} {σ : pM} (hP : Clo (pCall d) yX6_seeks cX6_seeks none 5 0 0 Q P) (hG : gAll g) (h : P 35 [(0, vR (some 166)), (1, vI (((up2 (up2 (up2 σ 166 8 ((-1))) 166 9 ((-1))) 166 10 ((-1))) 167 52) * ((up2 (up2 (up2 σ 166 8 ((-1))) 166 9 ((-1))) 166 10 ((-1))) 167 53))), (2, vI 0), (3, vI 0)] [] g (up2 (up2 (up2 σ 166 8 ((-1))) 166 9 ((-1))) 166 10 ((-1))) 0 0) : P 0 [(0, vR (some 166))] [] g σ 0 0 := by
  refine x_aloadn hP 1 0 dX6_seeks_0 rfl rfl mm0 ?_
  refine x_iconst hP 2 dX6_seeks_1 rfl ?_
  refine x_putf hP 5 dX6_seeks_2 rfl fl_RX6_86 (hG.O_166) (by decide) rfl rfl (fun hz => absurd hz (by decide)) ?_
  refine x_aloadn hP 6 0 dX6_seeks_5 rfl rfl mm0 ?_
  refine x_iconst hP 7 dX6_seeks_6 rfl ?_
  refine x_putf hP 10 dX6_seeks_7 rfl fl_RX6_89 (hG.O_166) (by decide) rfl rfl (fun hz => absurd hz (by decide)) ?_
  refine x_aloadn hP 11 0 dX6_seeks_10 rfl rfl mm0 ?_
  refine x_iconst hP 12 dX6_seeks_11 rfl ?_
  refine x_putf hP 15 dX6_seeks_12 rfl fl_RX6_92 (hG.O_166) (by decide) rfl rfl (fun hz => absurd hz (by decide)) ?_
  refine x_aloadn hP 16 0 dX6_seeks_15 rfl rfl mm0 ?_
  refine x_getr hP 19 167 dX6_seeks_16 rfl fl_RX6_7 (hG.O_166) (by decide) rfl (hG.R_166_0) ?_
  refine x_bipush hP 21 dX6_seeks_19 rfl (by decide) ?_
  refine x_iald hP 22 dX6_seeks_21 rfl (hG.A_167) (by decide) (by decide) ?_
  refine x_aloadn hP 23 0 dX6_seeks_22 rfl rfl mm0 ?_
  refine x_getr hP 26 167 dX6_seeks_23 rfl fl_RX6_7 (hG.O_166) (by decide) rfl (hG.R_166_0) ?_
  refine x_bipush hP 28 dX6_seeks_26 rfl (by decide) ?_
  refine x_iald hP 29 dX6_seeks_28 rfl (hG.A_167) (by decide) (by decide) ?_
  refine x_imul hP 30 dX6_seeks_29 rfl ?_
  refine x_istoren hP 31 1 [(0, vR (some 166)), (1, vI (((up2 (up2 (up2 σ 166 8 ((-1))) 166 9 ((-1))) 166 10 ((-1))) 167 52) * ((up2 (up2 (up2 σ 166 8 ((-1))) 166 9 ((-1))) 166 10 ((-1))) 167 53)))] dX6_seeks_30 rfl rfl (by decide) rfl rfl ?_
  refine x_iconst hP 32 dX6_seeks_31 rfl ?_
  refine x_istoren hP 33 2 [(0, vR (some 166)), (1, vI (((up2 (up2 (up2 σ 166 8 ((-1))) 166 9 ((-1))) 166 10 ((-1))) 167 52) * ((up2 (up2 (up2 σ 166 8 ((-1))) 166 9 ((-1))) 166 10 ((-1))) 167 53))), (2, vI 0)] dX6_seeks_32 rfl rfl (by decide) rfl rfl ?_
  refine x_iconst hP 34 dX6_seeks_33 rfl ?_
  refine x_istoren hP 35 3 [(0, vR (some 166)), (1, vI (((up2 (up2 (up2 σ 166 8 ((-1))) 166 9 ((-1))) 166 10 ((-1))) 167 52) * ((up2 (up2 (up2 σ 166 8 ((-1))) 166 9 ((-1))) 166 10 ((-1))) 167 53))), (2, vI 0), (3, vI 0)] dX6_seeks_34 rfl rfl (by decide) rfl rfl ?_
  exact h
theorem kk_X6_seeks_35 {d : Nat} {Q : pQ} {P : pP} {g : pG} {σ : pM} (hP : Clo (pCall d) yX6_seeks cX6_seeks none 5 0 0 Q P) (x1 : Int) (x2 : Int) (x3 : Int) (hG : gAll g) (h : iR x3 ∧ iR x1 ∧ (x1 ≤ x3 → P 73 [(0, vR (some 166)), (1, vI x1), (2, vI x2), (3, vI 0)] [] g (up2 σ 173 0 ((-1))) 0 0) ∧ (¬ (x1 ≤ x3) → ∃ (v1 : Int), Ca d yX6_isPoured [vR (some 166), vI 52, vI x3] g σ [vI v1] g σ ∧ iR v1 ∧ (v1 = 0 → P 35 [(0, vR (some 166)), (1, vI x1), (2, vI (x2 + 1)), (3, vI (x3 + 1))] [] g σ 0 0) ∧ (¬ (v1 = 0) → P 35 [(0, vR (some 166)), (1, vI x1), (2, vI (x2 + 0)), (3, vI (x3 + 1))] [] g σ 0 0))) : P 35 [(0, vR (some 166)), (1, vI x1), (2, vI x2), (3, vI x3)] [] g σ 0 0 := by
  refine x_iloadn hP 36 3 dX6_seeks_35 rfl rfl mm3 ?_
  refine x_iloadn hP 37 1 dX6_seeks_36 rfl rfl mm1 ?_
  obtain ⟨hs1, hs2, h⟩ := h
  refine x_icmp hP 40 64 (x1 ≤ x3) dX6_seeks_37 rfl rfl hs1 hs2 rfl (fun hbr => ?_) (fun hbr => ?_)
  · replace h := h.1 hbr
    refine x_iconst hP 65 dX6_seeks_64 rfl ?_
    refine x_istoren hP 66 3 [(0, vR (some 166)), (1, vI x1), (2, vI x2), (3, vI 0)] dX6_seeks_65 rfl rfl (by decide) rfl rfl ?_
    refine x_aloadn hP 67 0 dX6_seeks_66 rfl rfl mm0 ?_
    refine x_getr hP 70 173 dX6_seeks_67 rfl fl_RX6_29 (hG.O_166) (by decide) rfl (hG.R_166_12) ?_
    refine x_iconst hP 71 dX6_seeks_70 rfl ?_
    refine x_iconst hP 72 dX6_seeks_71 rfl ?_
    refine x_iast hP 73 dX6_seeks_72 rfl (hG.A_173) (by decide) (by decide) ?_
    exact h
  · replace h := h.2 hbr
    refine x_iloadn hP 41 2 dX6_seeks_40 rfl rfl mm2 ?_
    refine x_aloadn hP 42 0 dX6_seeks_41 rfl rfl mm0 ?_
    refine x_bipush hP 44 dX6_seeks_42 rfl (by decide) ?_
    refine x_iloadn hP 45 3 dX6_seeks_44 rfl rfl mm3 ?_
    obtain ⟨v1, hc, h⟩ := h
    refine x_cv hP 48 [vI 52, vI x3] [vI x2] dX6_seeks_45 rfl (hG.O_166) (by decide) rfl ml_RX6_54 im_X6_isPoured se_X6_isPoured it_RX6 pp_X6_isPoured bd_X6_isPoured rfl rfl ⟨Nat.le_refl _, Nat.le_refl _⟩ (by simp [pC]) hc ?_
    obtain ⟨hs1, h⟩ := h
    refine x_ifc hP 51 55 (v1 = 0) dX6_seeks_48 rfl rfl hs1 rfl (fun hbr => ?_) (fun hbr => ?_)
    · replace h := h.1 hbr
      refine x_iconst hP 56 dX6_seeks_55 rfl ?_
      refine x_iadd hP 57 dX6_seeks_56 rfl ?_
      refine x_istoren hP 58 2 [(0, vR (some 166)), (1, vI x1), (2, vI (x2 + 1)), (3, vI x3)] dX6_seeks_57 rfl rfl (by decide) rfl rfl ?_
      refine x_iinc hP 61 [(0, vR (some 166)), (1, vI x1), (2, vI (x2 + 1)), (3, vI (x3 + 1))] dX6_seeks_58 rfl mm3 (by decide) rfl rfl ?_
      refine x_goto hP 35 dX6_seeks_61 rfl ?_
      exact h
    · replace h := h.2 hbr
      refine x_iconst hP 52 dX6_seeks_51 rfl ?_
      refine x_goto hP 56 dX6_seeks_52 rfl ?_
      refine x_iadd hP 57 dX6_seeks_56 rfl ?_
      refine x_istoren hP 58 2 [(0, vR (some 166)), (1, vI x1), (2, vI (x2 + 0)), (3, vI x3)] dX6_seeks_57 rfl rfl (by decide) rfl rfl ?_
      refine x_iinc hP 61 [(0, vR (some 166)), (1, vI x1), (2, vI (x2 + 0)), (3, vI (x3 + 1))] dX6_seeks_58 rfl mm3 (by decide) rfl rfl ?_
      refine x_goto hP 35 dX6_seeks_61 rfl ?_
      exact h
theorem kk_X6_seeks_73 {d : Nat} {Q : pQ} {P : pP} {g : pG} {σ : pM} (hP : Clo (pCall d) yX6_seeks cX6_seeks none 5 0 0 Q P) (x1 : Int) (x2 : Int) (x3 : Int) (hG : gAll g) (h : iR x3 ∧ (x3 < 0 → Q [] g σ) ∧ (¬ (x3 < 0) → iR x3 ∧ iR x2 ∧ (¬ x3 = x2 → (0 ≤ x3 ∧ x3 < 10) ∧ iR (σ 173 (Int.toNat x3)) ∧ ((σ 173 (Int.toNat x3)) = ((-1)) → P 146 [(0, vR (some 166)), (1, vI x1), (2, vI x2), (3, vI x3)] [] g σ 0 0) ∧ (¬ ((σ 173 (Int.toNat x3)) = ((-1))) → (0 ≤ x3 ∧ x3 < 10) ∧ (0 ≤ (86 + (σ 173 (Int.toNat x3))) ∧ (86 + (σ 173 (Int.toNat x3))) < 1300) ∧ (0 ≤ x3 ∧ x3 < 10) ∧ (0 ≤ (95 + ((up2 σ 167 (Int.toNat (86 + (σ 173 (Int.toNat x3)))) ((-1))) 173 (Int.toNat x3))) ∧ (95 + ((up2 σ 167 (Int.toNat (86 + (σ 173 (Int.toNat x3)))) ((-1))) 173 (Int.toNat x3))) < 1300) ∧ (0 ≤ x3 ∧ x3 < 10) ∧ P 146 [(0, vR (some 166)), (1, vI x1), (2, vI x2), (3, vI x3)] [] g (up2 (up2 (up2 σ 167 (Int.toNat (86 + (σ 173 (Int.toNat x3)))) ((-1))) 167 (Int.toNat (95 + ((up2 σ 167 (Int.toNat (86 + (σ 173 (Int.toNat x3)))) ((-1))) 173 (Int.toNat x3)))) ((-1))) 167 54 ((up2 (up2 σ 167 (Int.toNat (86 + (σ 173 (Int.toNat x3)))) ((-1))) 167 (Int.toNat (95 + ((up2 σ 167 (Int.toNat (86 + (σ 173 (Int.toNat x3)))) ((-1))) 173 (Int.toNat x3)))) ((-1))) 174 (Int.toNat x3))) 0 0)) ∧ (¬ (¬ x3 = x2) → ∃ (s1 : pM), Ca d yX6_weighs [vR (some 166), vI x3] g σ [] g s1 ∧ P 73 [(0, vR (some 166)), (1, vI x1), (2, vI x2), (3, vI (x3 + (-1)))] [] g s1 0 0))) : P 73 [(0, vR (some 166)), (1, vI x1), (2, vI x2), (3, vI x3)] [] g σ 0 0 := by
  refine x_iloadn hP 74 3 dX6_seeks_73 rfl rfl mm3 ?_
  obtain ⟨hs1, h⟩ := h
  refine x_ifc hP 77 225 (x3 < 0) dX6_seeks_74 rfl rfl hs1 rfl (fun hbr => ?_) (fun hbr => ?_)
  · replace h := h.1 hbr
    exact x_vret hP dX6_seeks_225 ⟨Nat.le_refl _, Nat.le_refl _⟩ h
  · replace h := h.2 hbr
    refine x_iloadn hP 78 3 dX6_seeks_77 rfl rfl mm3 ?_
    refine x_iloadn hP 79 2 dX6_seeks_78 rfl rfl mm2 ?_
    obtain ⟨hs1, hs2, h⟩ := h
    refine x_icmp hP 82 93 (¬ x3 = x2) dX6_seeks_79 rfl rfl hs1 hs2 rfl (fun hbr => ?_) (fun hbr => ?_)
    · replace h := h.1 hbr
      refine x_aloadn hP 94 0 dX6_seeks_93 rfl rfl mm0 ?_
      refine x_getr hP 97 173 dX6_seeks_94 rfl fl_RX6_29 (hG.O_166) (by decide) rfl (hG.R_166_12) ?_
      refine x_iloadn hP 98 3 dX6_seeks_97 rfl rfl mm3 ?_
      obtain ⟨hs, h⟩ := h
      refine x_iald hP 99 dX6_seeks_98 rfl (hG.A_173) (by decide) hs ?_
      refine x_iconst hP 100 dX6_seeks_99 rfl ?_
      obtain ⟨hs1, h⟩ := h
      refine x_icmp hP 103 146 ((σ 173 (Int.toNat x3)) = ((-1))) dX6_seeks_100 rfl rfl hs1 (by decide) rfl (fun hbr => ?_) (fun hbr => ?_)
      · replace h := h.1 hbr
        exact h
      · replace h := h.2 hbr
        refine x_aloadn hP 104 0 dX6_seeks_103 rfl rfl mm0 ?_
        refine x_getr hP 107 167 dX6_seeks_104 rfl fl_RX6_7 (hG.O_166) (by decide) rfl (hG.R_166_0) ?_
        refine x_bipush hP 109 dX6_seeks_107 rfl (by decide) ?_
        refine x_aloadn hP 110 0 dX6_seeks_109 rfl rfl mm0 ?_
        refine x_getr hP 113 173 dX6_seeks_110 rfl fl_RX6_29 (hG.O_166) (by decide) rfl (hG.R_166_12) ?_
        refine x_iloadn hP 114 3 dX6_seeks_113 rfl rfl mm3 ?_
        obtain ⟨hs, h⟩ := h
        refine x_iald hP 115 dX6_seeks_114 rfl (hG.A_173) (by decide) hs ?_
        refine x_iadd hP 116 dX6_seeks_115 rfl ?_
        refine x_iconst hP 117 dX6_seeks_116 rfl ?_
        obtain ⟨hs1, h⟩ := h
        refine x_iast hP 118 dX6_seeks_117 rfl (hG.A_167) (by decide) hs1 ?_
        refine x_aloadn hP 119 0 dX6_seeks_118 rfl rfl mm0 ?_
        refine x_getr hP 122 167 dX6_seeks_119 rfl fl_RX6_7 (hG.O_166) (by decide) rfl (hG.R_166_0) ?_
        refine x_bipush hP 124 dX6_seeks_122 rfl (by decide) ?_
        refine x_aloadn hP 125 0 dX6_seeks_124 rfl rfl mm0 ?_
        refine x_getr hP 128 173 dX6_seeks_125 rfl fl_RX6_29 (hG.O_166) (by decide) rfl (hG.R_166_12) ?_
        refine x_iloadn hP 129 3 dX6_seeks_128 rfl rfl mm3 ?_
        obtain ⟨hs, h⟩ := h
        refine x_iald hP 130 dX6_seeks_129 rfl (hG.A_173) (by decide) hs ?_
        refine x_iadd hP 131 dX6_seeks_130 rfl ?_
        refine x_iconst hP 132 dX6_seeks_131 rfl ?_
        obtain ⟨hs1, h⟩ := h
        refine x_iast hP 133 dX6_seeks_132 rfl (hG.A_167) (by decide) hs1 ?_
        refine x_aloadn hP 134 0 dX6_seeks_133 rfl rfl mm0 ?_
        refine x_getr hP 137 167 dX6_seeks_134 rfl fl_RX6_7 (hG.O_166) (by decide) rfl (hG.R_166_0) ?_
        refine x_bipush hP 139 dX6_seeks_137 rfl (by decide) ?_
        refine x_aloadn hP 140 0 dX6_seeks_139 rfl rfl mm0 ?_
        refine x_getr hP 143 174 dX6_seeks_140 rfl fl_RX6_32 (hG.O_166) (by decide) rfl (hG.R_166_13) ?_
        refine x_iloadn hP 144 3 dX6_seeks_143 rfl rfl mm3 ?_
        obtain ⟨hs, h⟩ := h
        refine x_iald hP 145 dX6_seeks_144 rfl (hG.A_174) (by decide) hs ?_
        refine x_iast hP 146 dX6_seeks_145 rfl (hG.A_167) (by decide) (by decide) ?_
        exact h
    · replace h := h.2 hbr
      refine x_aloadn hP 83 0 dX6_seeks_82 rfl rfl mm0 ?_
      refine x_iloadn hP 84 3 dX6_seeks_83 rfl rfl mm3 ?_
      obtain ⟨s1, hc, h⟩ := h
      refine x_cv hP 87 [vI x3] [] dX6_seeks_84 rfl (hG.O_166) (by decide) rfl ml_RX6_95 im_X6_weighs se_X6_weighs it_RX6 pp_X6_weighs bd_X6_weighs rfl rfl ⟨Nat.le_refl _, Nat.le_refl _⟩ (by simp [pC]) hc ?_
      refine x_iinc hP 90 [(0, vR (some 166)), (1, vI x1), (2, vI x2), (3, vI (x3 + (-1)))] dX6_seeks_87 rfl mm3 (by decide) rfl rfl ?_
      refine x_goto hP 73 dX6_seeks_90 rfl ?_
      exact h
theorem kk_X6_seeks_146 {d : Nat} {Q : pQ} {P : pP} {g : pG} {σ : pM} (hP : Clo (pCall d) yX6_seeks cX6_seeks none 5 0 0 Q P) (x1 : Int) (x2 : Int) (x3 : Int) (hG : gAll g) (h : (0 ≤ x3 ∧ x3 < 10) ∧ (0 ≤ x3 ∧ x3 < 10) ∧ P 169 [(0, vR (some 166)), (1, vI x1), (2, vI x2), (3, vI x3), (4, vI (((up2 σ 174 (Int.toNat x3) (σ 167 54)) 173 (Int.toNat x3)) + 1))] [] g (up2 σ 174 (Int.toNat x3) (σ 167 54)) 0 0) : P 146 [(0, vR (some 166)), (1, vI x1), (2, vI x2), (3, vI x3)] [] g σ 0 0 := by
  refine x_aloadn hP 147 0 dX6_seeks_146 rfl rfl mm0 ?_
  refine x_getr hP 150 174 dX6_seeks_147 rfl fl_RX6_32 (hG.O_166) (by decide) rfl (hG.R_166_13) ?_
  refine x_iloadn hP 151 3 dX6_seeks_150 rfl rfl mm3 ?_
  refine x_aloadn hP 152 0 dX6_seeks_151 rfl rfl mm0 ?_
  refine x_getr hP 155 167 dX6_seeks_152 rfl fl_RX6_7 (hG.O_166) (by decide) rfl (hG.R_166_0) ?_
  refine x_bipush hP 157 dX6_seeks_155 rfl (by decide) ?_
  refine x_iald hP 158 dX6_seeks_157 rfl (hG.A_167) (by decide) (by decide) ?_
  obtain ⟨hs1, h⟩ := h
  refine x_iast hP 159 dX6_seeks_158 rfl (hG.A_174) (by decide) hs1 ?_
  refine x_aloadn hP 160 0 dX6_seeks_159 rfl rfl mm0 ?_
  refine x_getr hP 163 173 dX6_seeks_160 rfl fl_RX6_29 (hG.O_166) (by decide) rfl (hG.R_166_12) ?_
  refine x_iloadn hP 164 3 dX6_seeks_163 rfl rfl mm3 ?_
  obtain ⟨hs, h⟩ := h
  refine x_iald hP 165 dX6_seeks_164 rfl (hG.A_173) (by decide) hs ?_
  refine x_iconst hP 166 dX6_seeks_165 rfl ?_
  refine x_iadd hP 167 dX6_seeks_166 rfl ?_
  refine x_istore hP 169 [(0, vR (some 166)), (1, vI x1), (2, vI x2), (3, vI x3), (4, vI (((up2 σ 174 (Int.toNat x3) (σ 167 54)) 173 (Int.toNat x3)) + 1))] dX6_seeks_167 rfl (by decide) rfl rfl ?_
  exact h
theorem kk_X6_seeks_169 {d : Nat} {Q : pQ} {P : pP} {g : pG} {σ : pM} (hP : Clo (pCall d) yX6_seeks cX6_seeks none 5 0 0 Q P) (x1 : Int) (x2 : Int) (x3 : Int) (x4 : Int) (hG : gAll g) (h : iR x4 ∧ iR x1 ∧ (x1 ≤ x4 → iR x4 ∧ iR x1 ∧ (x1 ≤ x4 → P 73 [(0, vR (some 166)), (1, vI x1), (2, vI x2), (3, vI (x3 + (-1)))] [] g σ 0 0) ∧ (¬ (x1 ≤ x4) → (0 ≤ x3 ∧ x3 < 10) ∧ (0 ≤ (x3 + 1) ∧ (x3 + 1) < 10) ∧ P 73 [(0, vR (some 166)), (1, vI x1), (2, vI x2), (3, vI (x3 + 1))] [] g (up2 (up2 σ 173 (Int.toNat x3) x4) 173 (Int.toNat (x3 + 1)) ((-1))) 0 0)) ∧ (¬ (x1 ≤ x4) → ∃ (v1 : Int) (s2 : pM), Ca d yX6_pours [vR (some 166), vI 52, vI x4] g σ [vI v1] g s2 ∧ iR v1 ∧ (¬ v1 = 0 → iR x4 ∧ iR x1 ∧ (x1 ≤ x4 → P 73 [(0, vR (some 166)), (1, vI x1), (2, vI x2), (3, vI (x3 + (-1)))] [] g s2 0 0) ∧ (¬ (x1 ≤ x4) → (0 ≤ x3 ∧ x3 < 10) ∧ (0 ≤ (x3 + 1) ∧ (x3 + 1) < 10) ∧ P 73 [(0, vR (some 166)), (1, vI x1), (2, vI x2), (3, vI (x3 + 1))] [] g (up2 (up2 s2 173 (Int.toNat x3) x4) 173 (Int.toNat (x3 + 1)) ((-1))) 0 0)) ∧ (¬ (¬ v1 = 0) → P 169 [(0, vR (some 166)), (1, vI x1), (2, vI x2), (3, vI x3), (4, vI (x4 + 1))] [] g s2 0 0))) : P 169 [(0, vR (some 166)), (1, vI x1), (2, vI x2), (3, vI x3), (4, vI x4)] [] g σ 0 0 := by
  refine x_iload hP 171 dX6_seeks_169 rfl mm4 ?_
  refine x_iloadn hP 172 1 dX6_seeks_171 rfl rfl mm1 ?_
  obtain ⟨hs1, hs2, h⟩ := h
  refine x_icmp hP 175 192 (x1 ≤ x4) dX6_seeks_172 rfl rfl hs1 hs2 rfl (fun hbr => ?_) (fun hbr => ?_)
  · replace h := h.1 hbr
    refine x_iload hP 194 dX6_seeks_192 rfl mm4 ?_
    refine x_iloadn hP 195 1 dX6_seeks_194 rfl rfl mm1 ?_
    obtain ⟨hs1, hs2, h⟩ := h
    refine x_icmp hP 198 219 (x1 ≤ x4) dX6_seeks_195 rfl rfl hs1 hs2 rfl (fun hbr => ?_) (fun hbr => ?_)
    · replace h := h.1 hbr
      refine x_iinc hP 222 [(0, vR (some 166)), (1, vI x1), (2, vI x2), (3, vI (x3 + (-1))), (4, vI x4)] dX6_seeks_219 rfl mm3 (by decide) rfl rfl ?_
      refine x_goto hP 73 dX6_seeks_222 rfl ?_
      exact x_sub hP [0, 1, 2, 3] rfl h
    · replace h := h.2 hbr
      refine x_aloadn hP 199 0 dX6_seeks_198 rfl rfl mm0 ?_
      refine x_getr hP 202 173 dX6_seeks_199 rfl fl_RX6_29 (hG.O_166) (by decide) rfl (hG.R_166_12) ?_
      refine x_iloadn hP 203 3 dX6_seeks_202 rfl rfl mm3 ?_
      refine x_iload hP 205 dX6_seeks_203 rfl mm4 ?_
      obtain ⟨hs1, h⟩ := h
      refine x_iast hP 206 dX6_seeks_205 rfl (hG.A_173) (by decide) hs1 ?_
      refine x_iinc hP 209 [(0, vR (some 166)), (1, vI x1), (2, vI x2), (3, vI (x3 + 1)), (4, vI x4)] dX6_seeks_206 rfl mm3 (by decide) rfl rfl ?_
      refine x_aloadn hP 210 0 dX6_seeks_209 rfl rfl mm0 ?_
      refine x_getr hP 213 173 dX6_seeks_210 rfl fl_RX6_29 (hG.O_166) (by decide) rfl (hG.R_166_12) ?_
      refine x_iloadn hP 214 3 dX6_seeks_213 rfl rfl mm3 ?_
      refine x_iconst hP 215 dX6_seeks_214 rfl ?_
      obtain ⟨hs1, h⟩ := h
      refine x_iast hP 216 dX6_seeks_215 rfl (hG.A_173) (by decide) hs1 ?_
      refine x_goto hP 222 dX6_seeks_216 rfl ?_
      refine x_goto hP 73 dX6_seeks_222 rfl ?_
      exact x_sub hP [0, 1, 2, 3] rfl h
  · replace h := h.2 hbr
    refine x_aloadn hP 176 0 dX6_seeks_175 rfl rfl mm0 ?_
    refine x_bipush hP 178 dX6_seeks_176 rfl (by decide) ?_
    refine x_iload hP 180 dX6_seeks_178 rfl mm4 ?_
    obtain ⟨v1, s2, hc, h⟩ := h
    refine x_cv hP 183 [vI 52, vI x4] [] dX6_seeks_180 rfl (hG.O_166) (by decide) rfl ml_RX6_99 im_X6_pours se_X6_pours it_RX6 pp_X6_pours bd_X6_pours rfl rfl ⟨Nat.le_refl _, Nat.le_refl _⟩ (by simp [pC]) hc ?_
    obtain ⟨hs1, h⟩ := h
    refine x_ifc hP 186 192 (¬ v1 = 0) dX6_seeks_183 rfl rfl hs1 rfl (fun hbr => ?_) (fun hbr => ?_)
    · replace h := h.1 hbr
      refine x_iload hP 194 dX6_seeks_192 rfl mm4 ?_
      refine x_iloadn hP 195 1 dX6_seeks_194 rfl rfl mm1 ?_
      obtain ⟨hs1, hs2, h⟩ := h
      refine x_icmp hP 198 219 (x1 ≤ x4) dX6_seeks_195 rfl rfl hs1 hs2 rfl (fun hbr => ?_) (fun hbr => ?_)
      · replace h := h.1 hbr
        refine x_iinc hP 222 [(0, vR (some 166)), (1, vI x1), (2, vI x2), (3, vI (x3 + (-1))), (4, vI x4)] dX6_seeks_219 rfl mm3 (by decide) rfl rfl ?_
        refine x_goto hP 73 dX6_seeks_222 rfl ?_
        exact x_sub hP [0, 1, 2, 3] rfl h
      · replace h := h.2 hbr
        refine x_aloadn hP 199 0 dX6_seeks_198 rfl rfl mm0 ?_
        refine x_getr hP 202 173 dX6_seeks_199 rfl fl_RX6_29 (hG.O_166) (by decide) rfl (hG.R_166_12) ?_
        refine x_iloadn hP 203 3 dX6_seeks_202 rfl rfl mm3 ?_
        refine x_iload hP 205 dX6_seeks_203 rfl mm4 ?_
        obtain ⟨hs1, h⟩ := h
        refine x_iast hP 206 dX6_seeks_205 rfl (hG.A_173) (by decide) hs1 ?_
        refine x_iinc hP 209 [(0, vR (some 166)), (1, vI x1), (2, vI x2), (3, vI (x3 + 1)), (4, vI x4)] dX6_seeks_206 rfl mm3 (by decide) rfl rfl ?_
        refine x_aloadn hP 210 0 dX6_seeks_209 rfl rfl mm0 ?_
        refine x_getr hP 213 173 dX6_seeks_210 rfl fl_RX6_29 (hG.O_166) (by decide) rfl (hG.R_166_12) ?_
        refine x_iloadn hP 214 3 dX6_seeks_213 rfl rfl mm3 ?_
        refine x_iconst hP 215 dX6_seeks_214 rfl ?_
        obtain ⟨hs1, h⟩ := h
        refine x_iast hP 216 dX6_seeks_215 rfl (hG.A_173) (by decide) hs1 ?_
        refine x_goto hP 222 dX6_seeks_216 rfl ?_
        refine x_goto hP 73 dX6_seeks_222 rfl ?_
        exact x_sub hP [0, 1, 2, 3] rfl h
    · replace h := h.2 hbr
      refine x_iinc hP 189 [(0, vR (some 166)), (1, vI x1), (2, vI x2), (3, vI x3), (4, vI (x4 + 1))] dX6_seeks_186 rfl mm4 (by decide) rfl rfl ?_
      refine x_goto hP 169 dX6_seeks_189 rfl ?_
      exact h
