/-! Numbers: a whole number stands for an int (mod 2^32) or a long (mod 2^64) -/
abbrev iR (z : Int) : Prop := -2147483648 ≤ z ∧ z < 2147483648
abbrev jR (z : Int) : Prop := -9223372036854775808 ≤ z ∧ z < 9223372036854775808
def iv (z : Int) : Int32 := Int32.ofInt z
def jv (z : Int) : Int64 := Int64.ofInt z
theorem iv_add (a b : Int) : iv (a + b) = iv a + iv b := Int32.ofInt_add a b
theorem iv_sub (a b : Int) : iv (a - b) = iv a - iv b := Int32.ofInt_sub a b
theorem iv_mul (a b : Int) : iv (a * b) = iv a * iv b := Int32.ofInt_mul a b
theorem jv_add (a b : Int) : jv (a + b) = jv a + jv b := Int64.ofInt_add a b
theorem jv_mul (a b : Int) : jv (a * b) = jv a * jv b := Int64.ofInt_mul a b
theorem jv_sub (a b : Int) : jv (a - b) = jv a - jv b := Int64.ofInt_sub a b
theorem iv_toInt {a : Int} (h : iR a) : (iv a).toInt = a := Int32.toInt_ofInt_of_le h.1 h.2
theorem jv_toInt {a : Int} (h : jR a) : (jv a).toInt = a := Int64.toInt_ofInt_of_le h.1 h.2
theorem iv_lt {a b : Int} (ha : iR a) (hb : iR b) : iv a < iv b ↔ a < b := by rw [Int32.lt_iff_toInt_lt, iv_toInt ha, iv_toInt hb]
theorem iv_le {a b : Int} (ha : iR a) (hb : iR b) : iv a ≤ iv b ↔ a ≤ b := by rw [Int32.le_iff_toInt_le, iv_toInt ha, iv_toInt hb]
theorem iv_eq {a b : Int} (ha : iR a) (hb : iR b) : iv a = iv b ↔ a = b := by rw [← Int32.toInt_inj, iv_toInt ha, iv_toInt hb]
theorem jv_lt {a b : Int} (ha : jR a) (hb : jR b) : jv a < jv b ↔ a < b := by rw [Int64.lt_iff_toInt_lt, jv_toInt ha, jv_toInt hb]
theorem jv_eq {a b : Int} (ha : jR a) (hb : jR b) : jv a = jv b ↔ a = b := by rw [← Int64.toInt_inj, jv_toInt ha, jv_toInt hb]
theorem iv_nat (n : Nat) : iv (n : Int) = nI n := Int32.ofInt_eq_ofNat
theorem jv_nat (n : Nat) : jv (n : Int) = lN n := Int64.ofInt_eq_ofNat
theorem iv_0 : iv 0 = 0 := rfl
theorem iv_1 : iv 1 = 1 := rfl
theorem iv_self (x : Int32) : iv x.toInt = x := Int32.ofInt_toInt x
theorem iR_self (x : Int32) : iR x.toInt := ⟨Int32.le_toInt x, Int32.toInt_lt x⟩
theorem iv_clamp {a : Int} (h : iR a) : (iv a).toNatClampNeg = a.toNat := by
  show (iv a).toInt.toNat = _
  rw [iv_toInt h]
theorem iv_div {a b : Int} (ha : iR a) (hb : iR b) : iv (a.tdiv b) = iv a / iv b :=
  Int32.ofInt_tdiv ha.1 (Int.le_of_lt_add_one ha.2) hb.1 (Int.le_of_lt_add_one hb.2)
theorem iv_rem {a b : Int} (ha : iR a) (hb : iR b) : iv (a.tmod b) = iv a - iv a / iv b * iv b := by
  rw [← iv_div ha hb, ← iv_mul, ← iv_sub]
  congr 1
  have h := Int.tmod_add_mul_tdiv a b
  rw [Int.mul_comm] at h
  omega
theorem iv_ne0 {b : Int} (hb : iR b) (h : b ≠ 0) : ¬ iv b = 0 := fun q => h ((iv_eq hb ⟨by decide, by decide⟩).mp (q.trans iv_0.symm))
theorem iv_in {a : Int} {n : Nat} (h0 : 0 ≤ a) (h1 : a < n) (hn : n < 2147483648) : vp_in (iv a) n := by
  have hR : iR a := ⟨by omega, by omega⟩
  rintro (h | h)
  · rw [← iv_0, iv_lt hR ⟨by decide, by decide⟩] at h
    omega
  · rw [iv_clamp hR] at h
    omega
theorem iv_toJ {a : Int} (h : iR a) : (iv a).toInt64 = jv a := by
  have e : (iv a).toInt64.toInt = a := by rw [Int32.toInt_toInt64, iv_toInt h]
  rw [← Int64.toInt_inj, e, jv_toInt ⟨by have := h.1; omega, by have := h.2; omega⟩]
theorem jv_toI {a : Int} (h : 0 ≤ a) : (jv a).toInt32 = iv a := by
  obtain ⟨n, rfl⟩ := Int.eq_ofNat_of_zero_le h
  rw [jv_nat, iv_nat, lN_i]
theorem iv_bi {z : Int} (h : -128 ≤ z ∧ z < 128) : (Int8.ofInt z).toInt32 = iv z := by
  rw [← Int32.toInt_inj, Int8.toInt_toInt32, Int8.toInt_ofInt_of_le h.1 h.2, iv_toInt ⟨by omega, by omega⟩]
theorem iv_si {z : Int} (h : -32768 ≤ z ∧ z < 32768) : (Int16.ofInt z).toInt32 = iv z := by
  rw [← Int32.toInt_inj, Int16.toInt_toInt32, Int16.toInt_ofInt_of_le h.1 h.2, iv_toInt ⟨by omega, by omega⟩]
theorem iz_and (a b : Nat) : nI a &&& nI b = nI (a &&& b) := by
  apply Int32.toBitVec_inj.1
  show BitVec.ofNat 32 a &&& BitVec.ofNat 32 b = BitVec.ofNat 32 (a &&& b)
  apply BitVec.eq_of_getLsbD_eq
  intro i hi
  simp [hi]
theorem iz_or (a b : Nat) : nI a ||| nI b = nI (a ||| b) := by
  apply Int32.toBitVec_inj.1
  show BitVec.ofNat 32 a ||| BitVec.ofNat 32 b = BitVec.ofNat 32 (a ||| b)
  apply BitVec.eq_of_getLsbD_eq
  intro i hi
  simp [hi]
theorem jz_and (a b : Nat) : lN a &&& lN b = lN (a &&& b) := by
  apply Int64.toBitVec_inj.1
  show BitVec.ofNat 64 a &&& BitVec.ofNat 64 b = BitVec.ofNat 64 (a &&& b)
  apply BitVec.eq_of_getLsbD_eq
  intro i hi
  simp [hi]
theorem iv_and {a b : Int} (ha : 0 ≤ a) (hb : 0 ≤ b) : iv a &&& iv b = iv ((a.toNat &&& b.toNat : Nat) : Int) := by
  obtain ⟨n, rfl⟩ := Int.eq_ofNat_of_zero_le ha
  obtain ⟨m, rfl⟩ := Int.eq_ofNat_of_zero_le hb
  rw [iv_nat, iv_nat, iz_and, iv_nat]
  rfl
theorem iv_or {a b : Int} (ha : 0 ≤ a) (hb : 0 ≤ b) : iv a ||| iv b = iv ((a.toNat ||| b.toNat : Nat) : Int) := by
  obtain ⟨n, rfl⟩ := Int.eq_ofNat_of_zero_le ha
  obtain ⟨m, rfl⟩ := Int.eq_ofNat_of_zero_le hb
  rw [iv_nat, iv_nat, iz_or, iv_nat]
  rfl
theorem jv_and {a b : Int} (ha : 0 ≤ a) (hb : 0 ≤ b) : jv a &&& jv b = jv ((a.toNat &&& b.toNat : Nat) : Int) := by
  obtain ⟨n, rfl⟩ := Int.eq_ofNat_of_zero_le ha
  obtain ⟨m, rfl⟩ := Int.eq_ofNat_of_zero_le hb
  rw [jv_nat, jv_nat, jz_and, jv_nat]
  rfl
theorem iz_sl : ∀ k, k < 32 → ((nI k &&& 31).toBitVec.smod 32).toNat = k := by decide +kernel
theorem iz_su : ∀ k, k < 32 → (((nI k).toUInt32 &&& Int32.toUInt32 31).toBitVec % 32).toNat = k := by decide +kernel
theorem iv_shl {a b : Int} (ha : 0 ≤ a) (hb : 0 ≤ b) (hb2 : b < 32) (h : a * 2 ^ b.toNat < 4294967296) : iv a <<< (iv b &&& 31) = iv (a * 2 ^ b.toNat) := by
  obtain ⟨n, rfl⟩ := Int.eq_ofNat_of_zero_le ha
  obtain ⟨m, rfl⟩ := Int.eq_ofNat_of_zero_le hb
  have hm : m < 32 := by omega
  have h2 : n * 2 ^ m < 2 ^ 32 := by
    have h3 : ((n * 2 ^ m : Nat) : Int) < 4294967296 := by simpa using h
    omega
  rw [iv_nat, iv_nat, pk_shlN _ m (iz_sl m hm) h2, ← iv_nat]
  simp
theorem iv_shr {a b : Int} (ha : 0 ≤ a) (ha2 : a < 2147483648) (hb : 0 ≤ b) (hb2 : b < 32) : iv a >>> (iv b &&& 31) = iv (a / 2 ^ b.toNat) := by
  obtain ⟨n, rfl⟩ := Int.eq_ofNat_of_zero_le ha
  obtain ⟨m, rfl⟩ := Int.eq_ofNat_of_zero_le hb
  rw [iv_nat, iv_nat, pk_shrN (by omega) _ m (iz_sl m (by omega)), ← iv_nat]
  simp
theorem iv_ushr {a b : Int} (ha : 0 ≤ a) (ha2 : a < 2147483648) (hb : 0 ≤ b) (hb2 : b < 32) : ((iv a).toUInt32 >>> ((iv b).toUInt32 &&& Int32.toUInt32 31)).toInt32 = iv (a / 2 ^ b.toNat) := by
  obtain ⟨n, rfl⟩ := Int.eq_ofNat_of_zero_le ha
  obtain ⟨m, rfl⟩ := Int.eq_ofNat_of_zero_le hb
  rw [iv_nat, iv_nat, pk_ushrN (by omega) _ m (iz_su m (by omega)), ← iv_nat]
  simp
theorem iv_and31 (a : Int) : iv a &&& iv 31 = iv (a % 32) := by
  rw [show iv 31 = (31 : Int32) from rfl, pk_and (iv a) 5 (by decide)]
  have e : (iv a).toBitVec.toNat = (a % 4294967296).toNat := by
    show (BitVec.ofInt 32 a).toNat = _
    rw [BitVec.toNat_ofInt]
    rfl
  rw [e, ← iv_nat]
  congr 1
  omega
theorem jv_rem {a b : Int} (ha : jR a) (hb : jR b) : jv (a.tmod b) = jv a - jv a / jv b * jv b := by
  have hd : jv (a.tdiv b) = jv a / jv b := Int64.ofInt_tdiv ha.1 (Int.le_of_lt_add_one ha.2) hb.1 (Int.le_of_lt_add_one hb.2)
  rw [← hd, ← jv_mul, ← jv_sub]
  congr 1
  have h := Int.tmod_add_mul_tdiv a b
  rw [Int.mul_comm] at h
  omega
theorem jv_cmp {a b : Int} (ha : jR a) (hb : jR b) : lg_cmp (jv a) (jv b) = iv (if b < a then 1 else if a = b then 0 else -1) := by
  unfold lg_cmp
  by_cases h1 : b < a
  · rw [if_pos (show jv a > jv b from (jv_lt hb ha).mpr h1), if_pos h1]; rfl
  · rw [if_neg (show ¬ jv a > jv b from fun q => h1 ((jv_lt hb ha).mp q)), if_neg h1]
    by_cases h2 : a = b
    · rw [if_pos ((jv_eq ha hb).mpr h2), if_pos h2]; rfl
    · rw [if_neg (fun q => h2 ((jv_eq ha hb).mp q)), if_neg h2]; rfl
