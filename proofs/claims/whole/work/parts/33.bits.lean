/-! Bits: bitCount and the model's ones, over sets of nine -/
theorem k_J6_bitCount_0f7a4_0 {d : Nat} {Q : pQ} {P : pP} {g : pG} {σ : pM} (hP : Clo (pCall d) yJ6_bitCount_0f7a4 cJ6_bitCount_0f7a4 (some .int) 1 0 0 Q P) (a : Int) (h : ((0 : Int) ≤ a ∧ a < 2147483648 ∧ (0 : Int) ≤ 1 ∧ (1 : Int) < 32) ∧ (0 ≤ (a / 2 ^ (1 : Int).toNat) ∧ 0 ≤ (1431655765 : Int)) ∧ P 10 [(0, vI (a - (((Int.toNat (a / 2 ^ (1 : Int).toNat) &&& Int.toNat 1431655765 : Nat) : Int))))] [] g σ 0 0) : P 0 [(0, vI a)] [] g σ 0 0 := by
  refine x_iloadn hP 1 0 dJ6_bitCount_0f7a4_0 rfl rfl mm0 ?_
  refine x_iloadn hP 2 0 dJ6_bitCount_0f7a4_1 rfl rfl mm0 ?_
  refine x_iconst hP 3 dJ6_bitCount_0f7a4_2 rfl ?_
  obtain ⟨hs, h⟩ := h
  refine x_iushr hP 4 dJ6_bitCount_0f7a4_3 rfl hs ?_
  refine x_ldcw hP 7 dJ6_bitCount_0f7a4_4 rfl kc_RJ6_265 ?_
  obtain ⟨hs, h⟩ := h
  refine x_iand hP 8 dJ6_bitCount_0f7a4_7 rfl hs ?_
  refine x_isub hP 9 dJ6_bitCount_0f7a4_8 rfl ?_
  refine x_istoren hP 10 0 [(0, vI (a - (((Int.toNat (a / 2 ^ (1 : Int).toNat) &&& Int.toNat 1431655765 : Nat) : Int))))] dJ6_bitCount_0f7a4_9 rfl rfl (by decide) rfl rfl ?_
  exact h
theorem k_J6_bitCount_0f7a4_10 {d : Nat} {Q : pQ} {P : pP} {g : pG} {σ : pM} (hP : Clo (pCall d) yJ6_bitCount_0f7a4 cJ6_bitCount_0f7a4 (some .int) 1 0 0 Q P) (x0 : Int) (h : (0 ≤ x0 ∧ 0 ≤ (858993459 : Int)) ∧ ((0 : Int) ≤ x0 ∧ x0 < 2147483648 ∧ (0 : Int) ≤ 2 ∧ (2 : Int) < 32) ∧ (0 ≤ (x0 / 2 ^ (2 : Int).toNat) ∧ 0 ≤ (858993459 : Int)) ∧ P 24 [(0, vI ((((Int.toNat x0 &&& Int.toNat 858993459 : Nat) : Int)) + (((Int.toNat (x0 / 2 ^ (2 : Int).toNat) &&& Int.toNat 858993459 : Nat) : Int))))] [] g σ 0 0) : P 10 [(0, vI x0)] [] g σ 0 0 := by
  refine x_iloadn hP 11 0 dJ6_bitCount_0f7a4_10 rfl rfl mm0 ?_
  refine x_ldcw hP 14 dJ6_bitCount_0f7a4_11 rfl kc_RJ6_266 ?_
  obtain ⟨hs, h⟩ := h
  refine x_iand hP 15 dJ6_bitCount_0f7a4_14 rfl hs ?_
  refine x_iloadn hP 16 0 dJ6_bitCount_0f7a4_15 rfl rfl mm0 ?_
  refine x_iconst hP 17 dJ6_bitCount_0f7a4_16 rfl ?_
  obtain ⟨hs, h⟩ := h
  refine x_iushr hP 18 dJ6_bitCount_0f7a4_17 rfl hs ?_
  refine x_ldcw hP 21 dJ6_bitCount_0f7a4_18 rfl kc_RJ6_266 ?_
  obtain ⟨hs, h⟩ := h
  refine x_iand hP 22 dJ6_bitCount_0f7a4_21 rfl hs ?_
  refine x_iadd hP 23 dJ6_bitCount_0f7a4_22 rfl ?_
  refine x_istoren hP 24 0 [(0, vI ((((Int.toNat x0 &&& Int.toNat 858993459 : Nat) : Int)) + (((Int.toNat (x0 / 2 ^ (2 : Int).toNat) &&& Int.toNat 858993459 : Nat) : Int))))] dJ6_bitCount_0f7a4_23 rfl rfl (by decide) rfl rfl ?_
  exact h
theorem k_J6_bitCount_0f7a4_24 {d : Nat} {Q : pQ} {P : pP} {g : pG} {σ : pM} (hP : Clo (pCall d) yJ6_bitCount_0f7a4 cJ6_bitCount_0f7a4 (some .int) 1 0 0 Q P) (x0 : Int) (h : ((0 : Int) ≤ x0 ∧ x0 < 2147483648 ∧ (0 : Int) ≤ 4 ∧ (4 : Int) < 32) ∧ (0 ≤ (x0 + (x0 / 2 ^ (4 : Int).toNat)) ∧ 0 ≤ (252645135 : Int)) ∧ P 34 [(0, vI (((Int.toNat (x0 + (x0 / 2 ^ (4 : Int).toNat)) &&& Int.toNat 252645135 : Nat) : Int)))] [] g σ 0 0) : P 24 [(0, vI x0)] [] g σ 0 0 := by
  refine x_iloadn hP 25 0 dJ6_bitCount_0f7a4_24 rfl rfl mm0 ?_
  refine x_iloadn hP 26 0 dJ6_bitCount_0f7a4_25 rfl rfl mm0 ?_
  refine x_iconst hP 27 dJ6_bitCount_0f7a4_26 rfl ?_
  obtain ⟨hs, h⟩ := h
  refine x_iushr hP 28 dJ6_bitCount_0f7a4_27 rfl hs ?_
  refine x_iadd hP 29 dJ6_bitCount_0f7a4_28 rfl ?_
  refine x_ldcw hP 32 dJ6_bitCount_0f7a4_29 rfl kc_RJ6_267 ?_
  obtain ⟨hs, h⟩ := h
  refine x_iand hP 33 dJ6_bitCount_0f7a4_32 rfl hs ?_
  refine x_istoren hP 34 0 [(0, vI (((Int.toNat (x0 + (x0 / 2 ^ (4 : Int).toNat)) &&& Int.toNat 252645135 : Nat) : Int)))] dJ6_bitCount_0f7a4_33 rfl rfl (by decide) rfl rfl ?_
  exact h
theorem k_J6_bitCount_0f7a4_34 {d : Nat} {Q : pQ} {P : pP} {g : pG} {σ : pM} (hP : Clo (pCall d) yJ6_bitCount_0f7a4 cJ6_bitCount_0f7a4 (some .int) 1 0 0 Q P) (x0 : Int) (h : ((0 : Int) ≤ x0 ∧ x0 < 2147483648 ∧ (0 : Int) ≤ 8 ∧ (8 : Int) < 32) ∧ P 41 [(0, vI (x0 + (x0 / 2 ^ (8 : Int).toNat)))] [] g σ 0 0) : P 34 [(0, vI x0)] [] g σ 0 0 := by
  refine x_iloadn hP 35 0 dJ6_bitCount_0f7a4_34 rfl rfl mm0 ?_
  refine x_iloadn hP 36 0 dJ6_bitCount_0f7a4_35 rfl rfl mm0 ?_
  refine x_bipush hP 38 dJ6_bitCount_0f7a4_36 rfl (by decide) ?_
  obtain ⟨hs, h⟩ := h
  refine x_iushr hP 39 dJ6_bitCount_0f7a4_38 rfl hs ?_
  refine x_iadd hP 40 dJ6_bitCount_0f7a4_39 rfl ?_
  refine x_istoren hP 41 0 [(0, vI (x0 + (x0 / 2 ^ (8 : Int).toNat)))] dJ6_bitCount_0f7a4_40 rfl rfl (by decide) rfl rfl ?_
  exact h
theorem k_J6_bitCount_0f7a4_41 {d : Nat} {Q : pQ} {P : pP} {g : pG} {σ : pM} (hP : Clo (pCall d) yJ6_bitCount_0f7a4 cJ6_bitCount_0f7a4 (some .int) 1 0 0 Q P) (x0 : Int) (h : ((0 : Int) ≤ x0 ∧ x0 < 2147483648 ∧ (0 : Int) ≤ 16 ∧ (16 : Int) < 32) ∧ P 48 [(0, vI (x0 + (x0 / 2 ^ (16 : Int).toNat)))] [] g σ 0 0) : P 41 [(0, vI x0)] [] g σ 0 0 := by
  refine x_iloadn hP 42 0 dJ6_bitCount_0f7a4_41 rfl rfl mm0 ?_
  refine x_iloadn hP 43 0 dJ6_bitCount_0f7a4_42 rfl rfl mm0 ?_
  refine x_bipush hP 45 dJ6_bitCount_0f7a4_43 rfl (by decide) ?_
  obtain ⟨hs, h⟩ := h
  refine x_iushr hP 46 dJ6_bitCount_0f7a4_45 rfl hs ?_
  refine x_iadd hP 47 dJ6_bitCount_0f7a4_46 rfl ?_
  refine x_istoren hP 48 0 [(0, vI (x0 + (x0 / 2 ^ (16 : Int).toNat)))] dJ6_bitCount_0f7a4_47 rfl rfl (by decide) rfl rfl ?_
  exact h
theorem k_J6_bitCount_0f7a4_48 {d : Nat} {Q : pQ} {P : pP} {g : pG} {σ : pM} (hP : Clo (pCall d) yJ6_bitCount_0f7a4 cJ6_bitCount_0f7a4 (some .int) 1 0 0 Q P) (x0 : Int) (h : (0 ≤ x0 ∧ 0 ≤ (63 : Int)) ∧ Q [vI (((Int.toNat x0 &&& Int.toNat 63 : Nat) : Int))] g σ) : P 48 [(0, vI x0)] [] g σ 0 0 := by
  refine x_iloadn hP 49 0 dJ6_bitCount_0f7a4_48 rfl rfl mm0 ?_
  refine x_bipush hP 51 dJ6_bitCount_0f7a4_49 rfl (by decide) ?_
  obtain ⟨hs, h⟩ := h
  refine x_iand hP 52 dJ6_bitCount_0f7a4_51 rfl hs ?_
  exact x_iret hP dJ6_bitCount_0f7a4_52 ⟨Nat.le_refl _, Nat.le_refl _⟩ h
def bc1 (x : Nat) : Nat := x - (x / 2 &&& 1431655765)
def bc2 (x : Nat) : Nat := (x &&& 858993459) + (x / 4 &&& 858993459)
def bc3 (x : Nat) : Nat := (x + x / 16) &&& 252645135
def bc4 (x : Nat) : Nat := x + x / 256
def bc5 (x : Nat) : Nat := x + x / 65536
def pcn (x : Nat) : Nat := bc5 (bc4 (bc3 (bc2 (bc1 x)))) &&& 63
theorem sh_nat (x k : Nat) : ((x : Int) / 2 ^ k).toNat = x / 2 ^ k := by
  rw [show ((x : Int) / 2 ^ k) = ((x / 2 ^ k : Nat) : Int) by simp, Int.toNat_natCast]
theorem c_bits {d : Nat} {g : pG} {σ : pM} {x : Nat} (hx : x < 512) : Ca (d + 1) yJ6_bitCount_0f7a4 [vI (x : Int)] g σ [vI (pcn x : Int)] g σ := by
  refine ca_in cd_J6_bitCount_0f7a4 bd_J6_bitCount_0f7a4 (by decide +kernel) (by decide) (Nat.le_of_ble_eq_true rfl) (fun Q P hP hQ => ?_)
  have a1 : x / 2 &&& 1431655765 ≤ x / 2 := Nat.and_le_left
  have e1 : bc1 x ≤ x := Nat.sub_le _ _
  have a2 : bc1 x &&& 858993459 ≤ bc1 x := Nat.and_le_left
  have a3 : bc1 x / 4 &&& 858993459 ≤ bc1 x / 4 := Nat.and_le_left
  have e2 : bc2 (bc1 x) ≤ 1024 := by unfold bc2; omega
  have e3 : bc3 (bc2 (bc1 x)) ≤ 2048 := Nat.le_trans Nat.and_le_left (by omega)
  have e4 : bc4 (bc3 (bc2 (bc1 x))) ≤ 4096 := by unfold bc4; omega
  have e5 : bc5 (bc4 (bc3 (bc2 (bc1 x)))) ≤ 8192 := by unfold bc5; omega
  have c48 : P 48 [(0, vI (bc5 (bc4 (bc3 (bc2 (bc1 x)))) : Int))] [] g σ 0 0 := by
    refine k_J6_bitCount_0f7a4_48 hP _ ⟨⟨by omega, by decide⟩, ?_⟩
    rw [Int.toNat_natCast]
    exact hQ
  have c41 : P 41 [(0, vI (bc4 (bc3 (bc2 (bc1 x))) : Int))] [] g σ 0 0 := by
    refine k_J6_bitCount_0f7a4_41 hP _ ⟨⟨by omega, by omega, by decide, by decide⟩, ?_⟩
    rw [show ((bc4 (bc3 (bc2 (bc1 x))) : Nat) : Int) + (bc4 (bc3 (bc2 (bc1 x))) : Int) / 2 ^ (16 : Int).toNat = ((bc5 (bc4 (bc3 (bc2 (bc1 x)))) : Nat) : Int) by unfold bc5; simp]
    exact c48
  have c34 : P 34 [(0, vI (bc3 (bc2 (bc1 x)) : Int))] [] g σ 0 0 := by
    refine k_J6_bitCount_0f7a4_34 hP _ ⟨⟨by omega, by omega, by decide, by decide⟩, ?_⟩
    rw [show ((bc3 (bc2 (bc1 x)) : Nat) : Int) + (bc3 (bc2 (bc1 x)) : Int) / 2 ^ (8 : Int).toNat = ((bc4 (bc3 (bc2 (bc1 x))) : Nat) : Int) by unfold bc4; simp]
    exact c41
  have c24 : P 24 [(0, vI (bc2 (bc1 x) : Int))] [] g σ 0 0 := by
    refine k_J6_bitCount_0f7a4_24 hP _ ⟨⟨by omega, by omega, by decide, by decide⟩, ?_⟩
    have e : ((bc2 (bc1 x) : Nat) : Int) + (bc2 (bc1 x) : Int) / 2 ^ (4 : Int).toNat = ((bc2 (bc1 x) + bc2 (bc1 x) / 16 : Nat) : Int) := by simp
    rw [e]
    refine ⟨⟨by omega, by decide⟩, ?_⟩
    rw [Int.toNat_natCast]
    exact c34
  have c10 : P 10 [(0, vI (bc1 x : Int))] [] g σ 0 0 := by
    refine k_J6_bitCount_0f7a4_10 hP _ ⟨⟨by omega, by decide⟩, ⟨by omega, by omega, by decide, by decide⟩, ⟨?_, by decide⟩, ?_⟩
    · have : ((bc1 x : Nat) : Int) / 2 ^ (2 : Int).toNat = ((bc1 x / 4 : Nat) : Int) := by simp
      rw [this]; omega
    · rw [Int.toNat_natCast, show Int.toNat (((bc1 x : Nat) : Int) / 2 ^ (2 : Int).toNat) = bc1 x / 4 from sh_nat (bc1 x) 2, ← Int.natCast_add]
      exact c24
  refine k_J6_bitCount_0f7a4_0 hP _ ⟨⟨by omega, by omega, by decide, by decide⟩, ⟨?_, by decide⟩, ?_⟩
  · have : (x : Int) / 2 ^ (1 : Int).toNat = ((x / 2 : Nat) : Int) := by simp
    rw [this]; omega
  · rw [show Int.toNat ((x : Int) / 2 ^ (1 : Int).toNat) = x / 2 from sh_nat x 1]
    have e : (x : Int) - ((x / 2 &&& Int.toNat 1431655765 : Nat) : Int) = ((bc1 x : Nat) : Int) := by
      unfold bc1
      rw [show Int.toNat 1431655765 = 1431655765 from rfl]
      omega
    rw [e]
    exact c10
def on9 (x : Nat) : Nat → Nat
  | 0 => 0
  | n + 1 => on9 x n + (x / 2 ^ n &&& 1)
theorem pcn_on : ∀ x, x < 512 → pcn x = on9 x 9 := by decide +kernel
theorem c_ones {d : Nat} {g : pG} {σ : pM} {x : Nat} (hx : x < 512) : Ca (d + 1) yX6_ones [vI (x : Int)] g σ [vI (pcn x : Int)] g σ := by
  refine ca_in cd_X6_ones bd_X6_ones rfl (by decide) (Nat.le_of_ble_eq_true rfl) (fun Q P hP hQ => ?_)
  rw [pcn_on x hx] at hQ
  refine k_X6_ones_0 hP _ ?_
  have loop : ∀ (m n : Nat), n + m = 9 → P 4 [(0, vI (x : Int)), (1, vI (on9 x n : Int)), (2, vI (n : Int))] [] g σ 0 0 := by
    intro m
    induction m with
    | zero =>
      intro n hn
      refine k_X6_ones_4 hP _ _ _ ⟨rO (by omega) (by omega), fun _ => ?_, fun h => absurd (by omega) h⟩
      rw [show n = 9 by omega]
      exact hQ
    | succ m ih =>
      intro n hn
      have hi := ih (n + 1) (by omega)
      refine k_X6_ones_4 hP _ _ _ ⟨rO (by omega) (by omega), fun h => absurd h (by omega), fun _ => ⟨⟨by omega, by omega, by omega, by omega⟩, ⟨?_, by decide⟩, ?_⟩⟩
      · rw [Int.toNat_natCast, show (x : Int) / 2 ^ n = ((x / 2 ^ n : Nat) : Int) by simp]; exact Int.natCast_nonneg _
      · rw [Int.toNat_natCast, sh_nat, show Int.toNat 1 = 1 from rfl, ← Int.natCast_add]
        exact hi
  exact loop 9 0 rfl
/-- a set, as it is gathered -/
def bs (p : Nat → Bool) : Nat → Nat
  | 0 => 0
  | n + 1 => if p n = true then bs p n ||| 2 ^ n else bs p n
theorem bs_lt (p : Nat → Bool) : ∀ n, bs p n < 2 ^ n
  | 0 => by simp [bs]
  | n + 1 => by
    have h := bs_lt p n
    have h2 : 2 ^ n < 2 ^ (n + 1) := Nat.pow_lt_pow_right (by decide) (by omega)
    unfold bs
    split
    · exact Nat.or_lt_two_pow (by omega) h2
    · omega
theorem bs_512 (p : Nat → Bool) {n : Nat} (h : n ≤ 9) : bs p n < 512 := Nat.lt_of_lt_of_le (bs_lt p n) (Nat.pow_le_pow_right (by decide) h)
theorem bs_out (p : Nat → Bool) {n : Nat} : ∀ m, (∀ k, n ≤ k → k < n + m → p k = false) → bs p (n + m) = bs p n
  | 0, _ => rfl
  | m + 1, h => by
    rw [show n + (m + 1) = (n + m) + 1 by omega, bs, if_neg (by rw [h (n + m) (by omega) (by omega)]; decide), bs_out p m (fun k h1 h2 => h k h1 (by omega))]
theorem bit_in {n : Nat} (h : n < 9) (s : Nat) : ((0 : Int) ≤ 1 ∧ 0 ≤ (n : Int) ∧ (n : Int) < 32 ∧ (1 : Int) * 2 ^ (n : Int).toNat < 4294967296) ∧ (0 ≤ (s : Int) ∧ 0 ≤ ((1 : Int) * 2 ^ (n : Int).toNat : Int)) ∧ (((Int.toNat (s : Int) ||| Int.toNat ((1 : Int) * 2 ^ (n : Int).toNat) : Nat) : Int)) = ((s ||| 2 ^ n : Nat) : Int) := by
  have e : (1 : Int) * 2 ^ (n : Int).toNat = ((2 ^ n : Nat) : Int) := by simp
  have h2 : 2 ^ n < 512 := Nat.lt_of_lt_of_le (Nat.pow_lt_pow_right (by decide) h) (Nat.le_refl _)
  rw [e, Int.toNat_natCast, Int.toNat_natCast]
  generalize 2 ^ n = z at h2
  exact ⟨⟨by decide, by omega, by omega, by omega⟩, ⟨by omega, by omega⟩, rfl⟩
