/-! Constructors -/
theorem ca_in2 {d : Nat} {z : MethodName} {as : List pV} {g g2 : pG} {σ σ2 : pM} {r : List pV} {cc : ByteArray} {nL : Nat} {rt : Option FieldType} {b1 b2 : Nat} (hc : Cond.code z cc nL rt ∈ lw_ok) (hb : pBd z = (b1, b2)) (hpl : plainFor z = true) (hn : nL ≤ 40) (hs : (as.map pC).sum ≤ nL) (h : ∀ (Q : pQ) (P : pP), Clo (pCall d) z cc rt nL b1 b2 Q P → Q r g2 σ2 → P 0 (pAg 0 as) [] g σ 0 0) : Ca (d + 1) z as g σ r g2 σ2 :=
  fun Q hQ => ⟨cc, nL, rt, hc, hpl, hn, hs, fun P hP => by rw [hb] at hP; exact h Q P hP hQ⟩
section I0
variable {d : Nat} {y : MethodName} {cc : ByteArray} {rt : Option FieldType} {nL bc bs : Nat} {Q : pQ} {P : pP} {pc : Nat} {ls : pL} {st : List pV} {m : Nat} {kd : Nat → Nat × Nat} {rf : Nat → Nat → Option Nat} {σ : pM} {k n : Nat}
theorem x_newo (hP : Clo (pCall d) y cc rt nL bc bs Q P) (q m2 ci : Nat) {i : Nat} {C : String} {T : u_T} (hd : decode cc pc = .ok (.new i, 3)) (hq : pc + 3 = q) (hm : m + 1 = m2) (hv : vwCl[ci]? = some (C, T, pN ci)) (h7 : ci < 7) (w1 : Cond.classLink y.cls i C ∈ lw_ok) (w2 : Cond.instantiable C (pN ci) ∈ lw_ok) (w3 : Cond.initialized C ∈ lw_ok) (hb : k + 1 ≤ bc ∧ n + pN ci ≤ bs) (kk : P q ls (vR (some m) :: st) (m2, up1 kd m (ci, 0), up1 rf m (fun _ => none)) (up1 σ m (fun _ => 0)) (k + 1) (n + pN ci)) : P pc ls st (m, kd, rf) σ k n := by
  subst hm
  exact hP.new _ _ _ _ (m, kd, rf) _ _ _ _ _ _ _ hd hq hv h7 w1 w2 w3 hb.1 hb.2 kk
theorem x_newi (hP : Clo (pCall d) y cc rt nL bc bs Q P) (q m2 N : Nat) (hd : decode cc pc = .ok (.newarray .int, 2)) (hq : pc + 2 = q) (hm : m + 1 = m2) (hN : N < 100000) (hb : k + 1 ≤ bc ∧ n + N ≤ bs) (kk : P q ls (vR (some m) :: st) (m2, up1 kd m (7, N), up1 rf m (fun _ => none)) (up1 σ m (fun _ => 0)) (k + 1) (n + N)) : P pc ls (vI (N : Int) :: st) (m, kd, rf) σ k n := by
  subst hm
  exact hP.newi _ _ _ _ (m, kd, rf) _ _ _ _ hd hq hN hb.1 hb.2 kk
theorem x_newz (hP : Clo (pCall d) y cc rt nL bc bs Q P) (q m2 N : Nat) (hd : decode cc pc = .ok (.newarray .boolean, 2)) (hq : pc + 2 = q) (hm : m + 1 = m2) (hN : N < 100000) (hb : k + 1 ≤ bc ∧ n + N ≤ bs) (kk : P q ls (vR (some m) :: st) (m2, up1 kd m (8, N), up1 rf m (fun _ => none)) (up1 σ m (fun _ => 0)) (k + 1) (n + N)) : P pc ls (vI (N : Int) :: st) (m, kd, rf) σ k n := by
  subst hm
  exact hP.newz _ _ _ _ (m, kd, rf) _ _ _ _ hd hq hN hb.1 hb.2 kk
theorem x_newq (hP : Clo (pCall d) y cc rt nL bc bs Q P) (q m2 N kd1 : Nat) {i : Nat} {C : String} (hd : decode cc pc = .ok (.anewarray i, 3)) (hq : pc + 3 = q) (hm : m + 1 = m2) (hN : N < 100000) (hk : (kd1 = 9 ∧ C = "PourPlan$Image") ∨ (kd1 = 10 ∧ C = "PourPlan$Wall")) (w1 : Cond.classLink y.cls i C ∈ lw_ok) (hb : k + 1 ≤ bc ∧ n + N ≤ bs) (kk : P q ls (vR (some m) :: st) (m2, up1 kd m (kd1, N), up1 rf m (fun _ => none)) (up1 σ m (fun _ => 0)) (k + 1) (n + N)) : P pc ls (vI (N : Int) :: st) (m, kd, rf) σ k n := by
  subst hm
  exact hP.newq _ _ _ _ (m, kd, rf) _ _ _ _ _ _ _ hd hq hN hk w1 hb.1 hb.2 kk
theorem x_putr (hP : Clo (pCall d) y cc rt nL bc bs Q P) (q : Nat) {i o ci f : Nat} {r : Option Nat} (hd : decode cc pc = .ok (.putfield i, 3)) (hq : pc + 3 = q) (hl : pFl y.cls i ci f) (ho : gO (m, kd, rf) o ci) (h7 : ci < 7) (hr : pF ci f = true) (hf : pFin ci f = true) (hy : y.name = "<init>") (hv : vwCl[ci]?.map (fun q => q.1) = some y.cls) (kk : P q ls st (m, kd, up2 rf o f r) σ k n) : P pc ls (vR r :: vR (some o) :: st) (m, kd, rf) σ k n := hP.putr _ _ _ _ (m, kd, rf) _ _ _ _ _ _ _ _ hd hq ho.1 ho.2 h7 hl hr hf hy hv kk
theorem x_oini (hP : Clo (pCall d) y cc rt nL bc bs Q P) (q : Nat) {g : pG} {i o : Nat} (hd : decode cc pc = .ok (.invokespecial i, 3)) (hq : pc + 3 = q) (w : Cond.methodLink y.cls i objectInit ∈ lw_ok) (hs : (st.map pC).sum ≤ 8) (kk : P q ls st g σ k n) : P pc ls (vR (some o) :: st) g σ k n := hP.oini _ _ _ _ _ _ _ _ _ _ hd hq w hs kk
theorem x_ci (hP : Clo (pCall d) y cc rt nL bc bs Q P) (q : Nat) {g g2 : pG} {σ2 : pM} {i o : Nat} {z : MethodName} {r : List pV} {b1 b2 : Nat} (hd : decode cc pc = .ok (.invokespecial i, 3)) (hq : pc + 3 = q) (w1 : Cond.methodLink y.cls i z ∈ lw_ok) (w2 : Cond.instanceMethod z ∈ lw_ok) (w3 : Cond.initialized z.cls ∈ lw_ok) (hz : z.name = "<init>") (hp : pPar z 0) (hbd : pBd z = (b1, b2)) (hb : k + b1 ≤ bc ∧ n + b2 ≤ bs) (hs : (st.map pC).sum ≤ 8) (hc : Ca d z [vR (some o)] g σ r g2 σ2) (kk : P q ls (r ++ st) g2 σ2 (k + b1) (n + b2)) : P pc ls (vR (some o) :: st) g σ k n :=
  hP.calli _ _ _ _ _ _ _ _ _ _ _ hd hq w1 w2 w3 hz hp (by rw [hbd]; exact hb.1) (by rw [hbd]; exact hb.2) hs (by rw [hbd]; exact hc _ kk)
theorem x_cin (hP : Clo (pCall d) y cc rt nL bc bs Q P) (q : Nat) {g g2 : pG} {σ2 : pM} {i o : Nat} {host : String} {z : MethodName} {r : List pV} {b1 b2 : Nat} (hd : decode cc pc = .ok (.invokespecial i, 3)) (hq : pc + 3 = q) (w1 : Cond.methodLinkNest y.cls i z host ∈ lw_tbl) (w2 : Cond.instanceMethod z ∈ lw_ok) (w3 : Cond.initialized z.cls ∈ lw_ok) (hz : z.name = "<init>") (hp : pPar z 0) (hbd : pBd z = (b1, b2)) (hb : k + b1 ≤ bc ∧ n + b2 ≤ bs) (hs : (st.map pC).sum ≤ 8) (hc : Ca d z [vR (some o)] g σ r g2 σ2) (kk : P q ls (r ++ st) g2 σ2 (k + b1) (n + b2)) : P pc ls (vR (some o) :: st) g σ k n :=
  hP.callin _ _ _ _ _ _ _ _ _ _ _ _ hd hq w1 w2 w3 hz hp (by rw [hbd]; exact hb.1) (by rw [hbd]; exact hb.2) hs (by rw [hbd]; exact hc _ kk)
theorem x_aast (hP : Clo (pCall d) y cc rt nL bc bs Q P) (q : Nat) {o v len kd1 : Nat} {j : Int} (hd : decode cc pc = .ok (.aastore, 1)) (hq : pc + 1 = q) (ho : gA (m, kd, rf) o kd1 len) (hv : v < m) (hk : (kd1 = 9 ∧ (kd v).1 = 2) ∨ (kd1 = 10 ∧ (kd v).1 = 4)) (hlen : len < 2147483648) (hj : 0 ≤ j ∧ j < (len : Int)) (kk : P q ls st (m, kd, up2 rf o j.toNat (some v)) σ k n) : P pc ls (vR (some v) :: vI j :: vR (some o) :: st) (m, kd, rf) σ k n := by
  have h2 : kd o = (kd1, len) := ho.2
  exact hP.aast _ _ _ _ (m, kd, rf) _ _ _ _ _ _ hd hq ho.1 hv (by show ((kd o).1 = 9 ∧ _) ∨ ((kd o).1 = 10 ∧ _); rw [h2]; exact hk) hj.1 (by show j < ((kd o).2 : Int); rw [h2]; exact hj.2) (by show (kd o).2 < _; rw [h2]; exact hlen) kk
end I0
section I1
variable {d : Nat} {o m m2 : Nat} {kd kd2 : Nat → Nat × Nat} {rf rf2 : Nat → Nat → Option Nat} {σ : pM}
theorem gWl.tr (h : gWl (m, kd, rf) o) (hm : m ≤ m2) (hk : ∀ x, o ≤ x → x ≤ o + 5 → kd2 x = kd x) (hr : rf2 o = rf o) : gWl (m2, kd2, rf2) o := by
  obtain ⟨⟨a1, a2⟩, ⟨b1, b2⟩, ⟨c1, c2⟩, ⟨d1, d2⟩, ⟨e1, e2⟩, ⟨f1, f2⟩, r1, r2, r3, r4, r5⟩ := h
  refine ⟨⟨Nat.lt_of_lt_of_le a1 hm, ?_⟩, ⟨Nat.lt_of_lt_of_le b1 hm, ?_⟩, ⟨Nat.lt_of_lt_of_le c1 hm, ?_⟩, ⟨Nat.lt_of_lt_of_le d1 hm, ?_⟩, ⟨Nat.lt_of_lt_of_le e1 hm, ?_⟩, ⟨Nat.lt_of_lt_of_le f1 hm, ?_⟩, ?_, ?_, ?_, ?_, ?_⟩
  · show (kd2 o).1 = 4; rw [hk o (by omega) (by omega)]; exact a2
  · show kd2 (o + 1) = _; rw [hk _ (by omega) (by omega)]; exact b2
  · show kd2 (o + 2) = _; rw [hk _ (by omega) (by omega)]; exact c2
  · show kd2 (o + 3) = _; rw [hk _ (by omega) (by omega)]; exact d2
  · show kd2 (o + 4) = _; rw [hk _ (by omega) (by omega)]; exact e2
  · show kd2 (o + 5) = _; rw [hk _ (by omega) (by omega)]; exact f2
  · show rf2 o 8 = _; rw [hr]; exact r1
  · show rf2 o 9 = _; rw [hr]; exact r2
  · show rf2 o 10 = _; rw [hr]; exact r3
  · show rf2 o 11 = _; rw [hr]; exact r4
  · show rf2 o 12 = _; rw [hr]; exact r5
theorem gPl.tr (h : gPl (m, kd, rf) o) (hm : m ≤ m2) (hk : ∀ x, o ≤ x → x ≤ o + 5 → kd2 x = kd x) (hr : rf2 o = rf o) : gPl (m2, kd2, rf2) o := by
  obtain ⟨⟨a1, a2⟩, ⟨b1, b2⟩, ⟨c1, c2⟩, ⟨d1, d2⟩, ⟨e1, e2⟩, ⟨f1, f2⟩, r1, r2, r3, r4, r5⟩ := h
  refine ⟨⟨Nat.lt_of_lt_of_le a1 hm, ?_⟩, ⟨Nat.lt_of_lt_of_le b1 hm, ?_⟩, ⟨Nat.lt_of_lt_of_le c1 hm, ?_⟩, ⟨Nat.lt_of_lt_of_le d1 hm, ?_⟩, ⟨Nat.lt_of_lt_of_le e1 hm, ?_⟩, ⟨Nat.lt_of_lt_of_le f1 hm, ?_⟩, ?_, ?_, ?_, ?_, ?_⟩
  · show (kd2 o).1 = 3; rw [hk o (by omega) (by omega)]; exact a2
  · show kd2 (o + 1) = _; rw [hk _ (by omega) (by omega)]; exact b2
  · show kd2 (o + 2) = _; rw [hk _ (by omega) (by omega)]; exact c2
  · show kd2 (o + 3) = _; rw [hk _ (by omega) (by omega)]; exact d2
  · show kd2 (o + 4) = _; rw [hk _ (by omega) (by omega)]; exact e2
  · show kd2 (o + 5) = _; rw [hk _ (by omega) (by omega)]; exact f2
  · show rf2 o 13 = _; rw [hr]; exact r1
  · show rf2 o 14 = _; rw [hr]; exact r2
  · show rf2 o 15 = _; rw [hr]; exact r3
  · show rf2 o 16 = _; rw [hr]; exact r4
  · show rf2 o 17 = _; rw [hr]; exact r5
/-- the wall as it begins -/
def w0 : Wl := rai (up2 (up2 (up2 (fun _ _ => 0) 0 4 6) 0 5 3) 0 6 1) 3 2
theorem c_wini (hk : (kd o).1 = 4) (hz : σ o = fun _ => 0) : ∃ kd2 rf2 σ2, Ca (d + 3) yX4_init [vR (some o)] (o + 1, kd, rf) σ [] (o + 6, kd2, rf2) σ2 ∧ gWl (o + 6, kd2, rf2) o ∧ (∀ x, x ≤ o → kd2 x = kd x) ∧ (∀ x, x < o → rf2 x = rf x) ∧ cv σ2 o = w0 ∧ (∀ x, x < o → σ2 x = σ x) := by
  let kd2 : Nat → Nat × Nat := up1 (up1 (up1 (up1 (up1 kd (o + 1) (7, 9)) (o + 2) (7, 9)) (o + 3) (7, 9)) (o + 4) (7, 9)) (o + 5) (7, 9)
  let rf2 : Nat → Nat → Option Nat := up2 (up1 (up2 (up1 (up2 (up1 (up2 (up1 (up2 (up1 rf (o + 1) (fun _ => none)) o 8 (some (o + 1))) (o + 2) (fun _ => none)) o 9 (some (o + 2))) (o + 3) (fun _ => none)) o 10 (some (o + 3))) (o + 4) (fun _ => none)) o 11 (some (o + 4))) (o + 5) (fun _ => none)) o 12 (some (o + 5))
  let s1 : pM := up1 (up1 (up1 (up1 (up1 (up2 (up2 (up2 σ o 4 6) o 5 3) o 6 1) (o + 1) (fun _ => 0)) (o + 2) (fun _ => 0)) (o + 3) (fun _ => 0)) (o + 4) (fun _ => 0)) (o + 5) (fun _ => 0)
  have hg : gWl (o + 6, kd2, rf2) o := by
    refine ⟨⟨show o < o + 6 by omega, ?_⟩, ⟨show o + 1 < o + 6 by omega, ?_⟩, ⟨show o + 2 < o + 6 by omega, ?_⟩, ⟨show o + 3 < o + 6 by omega, ?_⟩, ⟨show o + 4 < o + 6 by omega, ?_⟩, ⟨show o + 5 < o + 6 by omega, ?_⟩, ?_, ?_, ?_, ?_, ?_⟩
    · show (up1 (up1 (up1 (up1 (up1 kd (o + 1) (7, 9)) (o + 2) (7, 9)) (o + 3) (7, 9)) (o + 4) (7, 9)) (o + 5) (7, 9) o).1 = 4
      simp [up1, hk]
    all_goals first
      | (show up1 (up1 (up1 (up1 (up1 kd (o + 1) (7, 9)) (o + 2) (7, 9)) (o + 3) (7, 9)) (o + 4) (7, 9)) (o + 5) (7, 9) _ = _; simp [up1])
      | (show up2 (up1 (up2 (up1 (up2 (up1 (up2 (up1 (up2 (up1 rf (o + 1) (fun _ => none)) o 8 (some (o + 1))) (o + 2) (fun _ => none)) o 9 (some (o + 2))) (o + 3) (fun _ => none)) o 10 (some (o + 3))) (o + 4) (fun _ => none)) o 11 (some (o + 4))) (o + 5) (fun _ => none)) o 12 (some (o + 5)) _ _ = _; simp [up1, up2])
  have hcv : cv s1 o = up2 (up2 (up2 (fun _ _ => 0) 0 4 6) 0 5 3) 0 6 1 := by
    funext f j
    have hz0 : ∀ j, σ o j = 0 := fun j => by rw [hz]
    unfold cv
    split
    · rename_i q
      rcases (show f = 0 ∨ f = 1 ∨ f = 2 ∨ f = 3 ∨ f = 4 ∨ f = 5 by omega) with rfl | rfl | rfl | rfl | rfl | rfl
      · show (up1 (up1 (up1 (up1 (up1 (up2 (up2 (up2 σ o 4 6) o 5 3) o 6 1) (o + 1) (fun _ => 0)) (o + 2) (fun _ => 0)) (o + 3) (fun _ => 0)) (o + 4) (fun _ => 0)) (o + 5) (fun _ => 0)) o j = _
        simp [up1, up2, hz0]
      all_goals
        show (up1 (up1 (up1 (up1 (up1 (up2 (up2 (up2 σ o 4 6) o 5 3) o 6 1) (o + 1) (fun _ => 0)) (o + 2) (fun _ => 0)) (o + 3) (fun _ => 0)) (o + 4) (fun _ => 0)) (o + 5) (fun _ => 0)) _ j = _
        simp [up1, up2]
    · rename_i q
      unfold up2
      by_cases hf : f = 0
      · have n4 : ¬ j = 4 := by omega
        have n5 : ¬ j = 5 := by omega
        have n6 : ¬ j = 6 := by omega
        simp [n4, n5, n6]
      · simp [hf]
  obtain ⟨σ2, r1, r2, r3⟩ := c_raise (d := d) (σ := s1) (o := o) (a := 3) (b := 2) (by decide) (by decide) hg
  rw [hcv] at r2
  refine ⟨kd2, rf2, σ2, ca_in2 cd_X4_init bd_X4_init rfl (by decide) (Nat.le_of_ble_eq_true rfl) (fun Q P hP hQ => ?_), hg, fun x hx => ?_, fun x hx => ?_, r2, fun x hx => ?_⟩
  · show P 0 [(0, vR (some o))] [] _ _ 0 0
    refine x_aloadn hP 1 0 dX4_init_0 rfl rfl mm0 ?_
    refine x_oini hP 4 dX4_init_1 rfl ml_RX4_3 (by simp [pC]) ?_
    refine x_aloadn hP 5 0 dX4_init_4 rfl rfl mm0 ?_
    refine x_bipush hP 7 dX4_init_5 rfl (by decide) ?_
    refine x_putf hP 10 dX4_init_7 rfl fl_RX4_9 ⟨show o < o + 1 by omega, by simp [up1, hk]⟩ (by decide) rfl rfl (fun hz => absurd hz (by decide)) ?_
    refine x_aloadn hP 11 0 dX4_init_10 rfl rfl mm0 ?_
    refine x_iconst hP 12 dX4_init_11 rfl ?_
    refine x_putf hP 15 dX4_init_12 rfl fl_RX4_15 ⟨show o < o + 1 by omega, by simp [up1, hk]⟩ (by decide) rfl rfl (fun hz => absurd hz (by decide)) ?_
    refine x_aloadn hP 16 0 dX4_init_15 rfl rfl mm0 ?_
    refine x_iconst hP 17 dX4_init_16 rfl ?_
    refine x_putf hP 20 dX4_init_17 rfl fl_RX4_18 ⟨show o < o + 1 by omega, by simp [up1, hk]⟩ (by decide) rfl rfl (fun hz => absurd hz (by decide)) ?_
    refine x_aloadn hP 21 0 dX4_init_20 rfl rfl mm0 ?_
    refine x_bipush hP 23 dX4_init_21 rfl (by decide) ?_
    refine x_newi hP 25 (o + 2) 9 dX4_init_23 rfl rfl (by decide) (by decide) ?_
    refine x_putr hP 28 dX4_init_25 rfl fl_RX4_21 ⟨show o < o + 2 by omega, by simp [up1, hk]⟩ (by decide) rfl rfl rfl rfl ?_
    refine x_aloadn hP 29 0 dX4_init_28 rfl rfl mm0 ?_
    refine x_bipush hP 31 dX4_init_29 rfl (by decide) ?_
    refine x_newi hP 33 (o + 3) 9 dX4_init_31 rfl rfl (by decide) (by decide) ?_
    refine x_putr hP 36 dX4_init_33 rfl fl_RX4_25 ⟨show o < o + 3 by omega, by simp [up1, hk]⟩ (by decide) rfl rfl rfl rfl ?_
    refine x_aloadn hP 37 0 dX4_init_36 rfl rfl mm0 ?_
    refine x_bipush hP 39 dX4_init_37 rfl (by decide) ?_
    refine x_newi hP 41 (o + 4) 9 dX4_init_39 rfl rfl (by decide) (by decide) ?_
    refine x_putr hP 44 dX4_init_41 rfl fl_RX4_28 ⟨show o < o + 4 by omega, by simp [up1, hk]⟩ (by decide) rfl rfl rfl rfl ?_
    refine x_aloadn hP 45 0 dX4_init_44 rfl rfl mm0 ?_
    refine x_bipush hP 47 dX4_init_45 rfl (by decide) ?_
    refine x_newi hP 49 (o + 5) 9 dX4_init_47 rfl rfl (by decide) (by decide) ?_
    refine x_putr hP 52 dX4_init_49 rfl fl_RX4_31 ⟨show o < o + 5 by omega, by simp [up1, hk]⟩ (by decide) rfl rfl rfl rfl ?_
    refine x_aloadn hP 53 0 dX4_init_52 rfl rfl mm0 ?_
    refine x_bipush hP 55 dX4_init_53 rfl (by decide) ?_
    refine x_newi hP 57 (o + 6) 9 dX4_init_55 rfl rfl (by decide) (by decide) ?_
    refine x_putr hP 60 dX4_init_57 rfl fl_RX4_34 ⟨show o < o + 6 by omega, by simp [up1, hk]⟩ (by decide) rfl rfl rfl rfl ?_
    refine x_aloadn hP 61 0 dX4_init_60 rfl rfl mm0 ?_
    refine x_iconst hP 62 dX4_init_61 rfl ?_
    refine x_iconst hP 63 dX4_init_62 rfl ?_
    refine x_cv (ci := 4) hP 66 [vI 3, vI 2] [] dX4_init_63 rfl ⟨show o < o + 6 by omega, by simp [up1, hk]⟩ (by decide) rfl ml_RX4_37 im_X4_raise se_X4_raise it_RX4 pp_X4_raise bd_X4_raise rfl rfl (by decide) (by simp [pC]) r1 ?_
    exact x_vret hP dX4_init_66 (by decide) hQ
  · show up1 (up1 (up1 (up1 (up1 kd (o + 1) (7, 9)) (o + 2) (7, 9)) (o + 3) (7, 9)) (o + 4) (7, 9)) (o + 5) (7, 9) x = _
    have n1 : ¬ x = o + 1 := by omega
    have n2 : ¬ x = o + 2 := by omega
    have n3 : ¬ x = o + 3 := by omega
    have n4 : ¬ x = o + 4 := by omega
    have n5 : ¬ x = o + 5 := by omega
    simp [up1, n1, n2, n3, n4, n5]
  · funext j
    show up2 (up1 (up2 (up1 (up2 (up1 (up2 (up1 (up2 (up1 rf (o + 1) (fun _ => none)) o 8 (some (o + 1))) (o + 2) (fun _ => none)) o 9 (some (o + 2))) (o + 3) (fun _ => none)) o 10 (some (o + 3))) (o + 4) (fun _ => none)) o 11 (some (o + 4))) (o + 5) (fun _ => none)) o 12 (some (o + 5)) x j = _
    have n0 : ¬ x = o := by omega
    have n1 : ¬ x = o + 1 := by omega
    have n2 : ¬ x = o + 2 := by omega
    have n3 : ¬ x = o + 3 := by omega
    have n4 : ¬ x = o + 4 := by omega
    have n5 : ¬ x = o + 5 := by omega
    simp [up1, up2, n0, n1, n2, n3, n4, n5]
  · rw [r3 x (by omega)]
    funext j
    show (up1 (up1 (up1 (up1 (up1 (up2 (up2 (up2 σ o 4 6) o 5 3) o 6 1) (o + 1) (fun _ => 0)) (o + 2) (fun _ => 0)) (o + 3) (fun _ => 0)) (o + 4) (fun _ => 0)) (o + 5) (fun _ => 0)) x j = _
    have n0 : ¬ x = o := by omega
    have n1 : ¬ x = o + 1 := by omega
    have n2 : ¬ x = o + 2 := by omega
    have n3 : ¬ x = o + 3 := by omega
    have n4 : ¬ x = o + 4 := by omega
    have n5 : ¬ x = o + 5 := by omega
    simp [up1, up2, n0, n1, n2, n3, n4, n5]
end I1
