/-! The plan: what is covered at the end of an order is all harm (pure) -/
theorem su_sh {F G : Nat → Int} {N s : Nat} (hs : s ≤ N) (h1 : ∀ c, c + s < N → G (c + s) = F c) (h2 : ∀ c, c < s → G c = 0) (h3 : ∀ c, c < N → N ≤ c + s → F c = 0) : su G N = su F N := by
  have z : su G s = 0 := by
    have e2 : ∀ m : Nat, su (fun _ => 0) m = 0 := by
      intro m
      induction m with
      | zero => rfl
      | succ m ih => rw [su, ih]; rfl
    rw [su_cong (g := fun _ => 0) h2, e2]
  have k : ∀ m : Nat, m + s ≤ N → su G (m + s) = su F m := by
    intro m
    induction m with
    | zero => intro _; rw [Nat.zero_add, z]; rfl
    | succ m ih =>
      intro hm
      rw [show m + 1 + s = (m + s) + 1 by omega, su, su, ih (by omega), h1 m (by omega)]
  rw [su_to (f := F) (n := N - s) (N := N) (by omega) (fun c q1 q2 => h3 c q2 (by omega)), ← k (N - s) (by omega), show N - s + s = N by omega]
theorem su_3 {f a b c : Nat → Int} : ∀ n : Nat, (∀ k, k < n → f (3 * k) = a k ∧ f (3 * k + 1) = b k ∧ f (3 * k + 2) = c k) → su f (3 * n) = su a n + su b n + su c n
  | 0, _ => rfl
  | n + 1, h => by
    obtain ⟨h1, h2, h3⟩ := h n (by omega)
    rw [show 3 * (n + 1) = 3 * n + 1 + 1 + 1 by omega, su, su, su, su, su, su, su_3 n (fun k hk => h k (by omega)), h1, h2, h3]
    omega
theorem su_add3 {f a b c : Nat → Int} : ∀ n : Nat, (∀ k, k < n → f k = a k + b k + c k) → su f n = su a n + su b n + su c n
  | 0, _ => rfl
  | n + 1, h => by
    rw [su, su, su, su, su_add3 n (fun k hk => h k (by omega)), h n (by omega)]
    omega
section P3
variable {T : Int} {w : Wl}
theorem modS {s : Int} (hs : 1 ≤ s ∧ s ≤ 3) (c : Nat) : (0 < ((c + 1 : Nat) : Int) % s ↔ (c : Int) % s + 1 < s) := by
  rcases (show s = 1 ∨ s = 2 ∨ s = 3 by omega) with rfl | rfl | rfl <;> omega
theorem modE (hw : wOK T w) {c : Nat} (hc : ((c + 1 : Nat) : Int) = w 0 2) : ¬ (c : Int) % w 0 0 + 1 < w 0 0 := by
  obtain ⟨a1, a2, a3, -⟩ := hw
  rw [a3] at hc
  rcases (show w 0 0 = 1 ∨ w 0 0 = 2 ∨ w 0 0 = 3 by omega) with e | e | e <;> rcases (show w 0 1 = 1 ∨ w 0 1 = 2 ∨ w 0 1 = 3 by omega) with f | f | f <;> rw [e, f] at hc <;> rw [e] <;> simp at hc <;> omega
theorem mod0 (s : Int) : ¬ 0 < ((0 : Nat) : Int) % s := by simp
theorem hcv_full (hw : wOK T w) (h : un w = 0) : hcv w = hrm w := by
  have hf := (used_full hw h).1
  have hcl := hw.cells
  have hst := hw.st
  have e27 : hrm w = su (fJ w) (3 * (w 0 2).toNat) := by
    refine su_to (by omega) (fun e h1 h2 => ?_)
    refine if_neg (fun q => ?_)
    have := (acr_cell hw q.1).2
    omega
  have t3 := su_3 (f := fJ w) (a := fun c => if (c : Int) + w 0 0 < w 0 2 ∧ w 0 4 < w 2 (c + (w 0 0).toNat) - w 3 c then w 0 5 else 0) (b := fun c => if (c : Int) % w 0 0 + 1 < w 0 0 ∧ w 0 4 < w 2 (c + 1) - w 3 c then w 0 6 else 0) (c := fun c => if 0 < (c : Int) % w 0 0 ∧ w 0 4 < w 2 (c - 1) - w 3 c then w 0 6 else 0) (w 0 2).toNat (fun k hk => by
    have hk2 : (k : Int) < w 0 2 := by omega
    have hkp := hf k hk2
    have d0 : 3 * k / 3 = k := by omega
    have d1 : (3 * k + 1) / 3 = k := by omega
    have d2 : (3 * k + 2) / 3 = k := by omega
    have m0 : 3 * k % 3 = 0 := by omega
    have m1 : (3 * k + 1) % 3 = 1 := by omega
    have m2 : (3 * k + 2) % 3 = 2 := by omega
    have x0 : acr w (3 * k) = if (k : Int) + w 0 0 < w 0 2 then (k : Int) + w 0 0 else -1 := by rw [acr, d0, if_pos hk2, if_pos m0]
    have x1 : acr w (3 * k + 1) = if (k : Int) % w 0 0 + 1 < w 0 0 then (k : Int) + 1 else -1 := by rw [acr, d1, if_pos hk2, if_neg (by omega), if_pos m1]
    have x2 : acr w (3 * k + 2) = if 0 < (k : Int) % w 0 0 then (k : Int) - 1 else -1 := by rw [acr, d2, if_pos hk2, if_neg (by omega), if_neg (by omega)]
    have md1 := Int.emod_nonneg (k : Int) (show w 0 0 ≠ 0 by omega)
    refine ⟨?_, ?_, ?_⟩
    · unfold fJ hof
      rw [if_pos m0]
      by_cases q : (k : Int) + w 0 0 < w 0 2
      · rw [if_pos q] at x0
        have en : (acr w (3 * k)).toNat = k + (w 0 0).toNat := by omega
        have hp := hf (k + (w 0 0).toNat) (by omega)
        have e : jnt w (3 * k) ↔ ((k : Int) + w 0 0 < w 0 2 ∧ w 0 4 < w 2 (k + (w 0 0).toNat) - w 3 k) := by
          unfold jnt
          rw [en, d0, if_neg hp]
          exact ⟨fun z => ⟨q, z.2.2⟩, fun z => ⟨by omega, hkp, z.2⟩⟩
        simp only [e]
      · rw [if_neg q] at x0
        rw [if_neg (fun z => z.1 x0), if_neg (fun z => q z.1)]
    · unfold fJ hof
      rw [if_neg (show ¬ (3 * k + 1) % 3 = 0 by omega)]
      by_cases q : (k : Int) % w 0 0 + 1 < w 0 0
      · rw [if_pos q] at x1
        have hk1 : ((k + 1 : Nat) : Int) < w 0 2 := by
          have := mt (fun z => modE hw (c := k) z) (fun z => z q)
          omega
        have en : (acr w (3 * k + 1)).toNat = k + 1 := by omega
        have hp := hf (k + 1) hk1
        have e : jnt w (3 * k + 1) ↔ ((k : Int) % w 0 0 + 1 < w 0 0 ∧ w 0 4 < w 2 (k + 1) - w 3 k) := by
          unfold jnt
          rw [en, d1, if_neg hp]
          exact ⟨fun z => ⟨q, z.2.2⟩, fun z => ⟨by omega, hkp, z.2⟩⟩
        simp only [e]
      · rw [if_neg q] at x1
        rw [if_neg (fun z => z.1 x1), if_neg (fun z => q z.1)]
    · unfold fJ hof
      rw [if_neg (show ¬ (3 * k + 2) % 3 = 0 by omega)]
      by_cases q : 0 < (k : Int) % w 0 0
      · rw [if_pos q] at x2
        have hk0 : k ≠ 0 := fun z => by rw [z] at q; exact mod0 _ q
        have en : (acr w (3 * k + 2)).toNat = k - 1 := by omega
        have hp := hf (k - 1) (by omega)
        have e : jnt w (3 * k + 2) ↔ (0 < (k : Int) % w 0 0 ∧ w 0 4 < w 2 (k - 1) - w 3 k) := by
          unfold jnt
          rw [en, d2, if_neg hp]
          exact ⟨fun z => ⟨q, z.2.2⟩, fun z => ⟨by omega, hkp, z.2⟩⟩
        simp only [e]
      · rw [if_neg q] at x2
        rw [if_neg (fun z => z.1 x2), if_neg (fun z => q z.1)])
  have t4 := su_add3 (f := fun c => if w 2 c = -1 then 0 else hC w c (w 3 c - w 1 c)) (a := fun c => if w 0 0 ≤ (c : Int) ∧ w 3 (c - (w 0 0).toNat) < w 2 c - w 0 4 then w 0 5 else 0) (b := fun c => if 0 < (c : Int) % w 0 0 ∧ w 3 (c - 1) < w 2 c - w 0 4 then w 0 6 else 0) (c := fun c => if (c : Int) % w 0 0 + 1 < w 0 0 ∧ w 3 (c + 1) < w 2 c - w 0 4 then w 0 6 else 0) (w 0 2).toNat (fun k hk => by
    have hk2 : (k : Int) < w 0 2 := by omega
    have hkp := hf k hk2
    have hb := hw.bd (c := k) (by omega)
    have eb : w 3 k - w 1 k = w 2 k := by omega
    have ed : ∀ j : Nat, (j : Int) < w 0 2 → dn w j = w 3 j := fun j hj => if_neg (hf j hj)
    rw [if_neg hkp, eb]
    unfold hC
    have i1 : (w 0 0 ≤ (k : Int) ∧ dn w (k - (w 0 0).toNat) < w 2 k - w 0 4) ↔ (w 0 0 ≤ (k : Int) ∧ w 3 (k - (w 0 0).toNat) < w 2 k - w 0 4) := by
      rw [ed _ (by omega)]
    have i2 : (0 < (k : Int) % w 0 0 ∧ dn w (k - 1) < w 2 k - w 0 4) ↔ (0 < (k : Int) % w 0 0 ∧ w 3 (k - 1) < w 2 k - w 0 4) := by
      rw [ed _ (by omega)]
    have i3 : ((k : Int) % w 0 0 + 1 < w 0 0 ∧ dn w (k + 1) < w 2 k - w 0 4) ↔ ((k : Int) % w 0 0 + 1 < w 0 0 ∧ w 3 (k + 1) < w 2 k - w 0 4) := by
      constructor <;> intro q <;> refine ⟨q.1, ?_⟩ <;> have q2 := q.2 <;> have hk1 : ((k + 1 : Nat) : Int) < w 0 2 := by
        have := mt (fun z => modE hw (c := k) z) (fun z => z q.1)
        omega
      · rw [ed _ hk1] at q2; exact q2
      · rw [ed _ hk1]; exact q2
    simp only [i1, i2, i3])
  have s1 := su_sh (G := fun c => if w 0 0 ≤ (c : Int) ∧ w 3 (c - (w 0 0).toNat) < w 2 c - w 0 4 then w 0 5 else 0) (F := fun c => if (c : Int) + w 0 0 < w 0 2 ∧ w 0 4 < w 2 (c + (w 0 0).toNat) - w 3 c then w 0 5 else 0) (N := (w 0 2).toNat) (s := (w 0 0).toNat) (by omega) (fun c hc => by
      have e : (w 0 0 ≤ ((c + (w 0 0).toNat : Nat) : Int) ∧ w 3 (c + (w 0 0).toNat - (w 0 0).toNat) < w 2 (c + (w 0 0).toNat) - w 0 4) ↔ ((c : Int) + w 0 0 < w 0 2 ∧ w 0 4 < w 2 (c + (w 0 0).toNat) - w 3 c) := by
        rw [Nat.add_sub_cancel]
        omega
      simp only [e]) (fun c hc => if_neg (fun q => by omega)) (fun c hc hc2 => if_neg (fun q => by omega))
  have s2 := su_sh (G := fun c => if 0 < (c : Int) % w 0 0 ∧ w 3 (c - 1) < w 2 c - w 0 4 then w 0 6 else 0) (F := fun c => if (c : Int) % w 0 0 + 1 < w 0 0 ∧ w 0 4 < w 2 (c + 1) - w 3 c then w 0 6 else 0) (N := (w 0 2).toNat) (s := 1) (by omega) (fun c hc => by
      have e : (0 < ((c + 1 : Nat) : Int) % w 0 0 ∧ w 3 (c + 1 - 1) < w 2 (c + 1) - w 0 4) ↔ ((c : Int) % w 0 0 + 1 < w 0 0 ∧ w 0 4 < w 2 (c + 1) - w 3 c) := by
        rw [modS hst, Nat.add_sub_cancel]
        constructor <;> intro q <;> exact ⟨q.1, by omega⟩
      simp only [e]) (fun c hc => if_neg (fun q => by rw [show c = 0 by omega] at q; exact mod0 _ q.1)) (fun c hc hc2 => if_neg (fun q => modE hw (c := c) (by omega) q.1))
  have s3 := su_sh (G := fun c => if 0 < (c : Int) % w 0 0 ∧ w 0 4 < w 2 (c - 1) - w 3 c then w 0 6 else 0) (F := fun c => if (c : Int) % w 0 0 + 1 < w 0 0 ∧ w 3 (c + 1) < w 2 c - w 0 4 then w 0 6 else 0) (N := (w 0 2).toNat) (s := 1) (by omega) (fun c hc => by
      have e : (0 < ((c + 1 : Nat) : Int) % w 0 0 ∧ w 0 4 < w 2 (c + 1 - 1) - w 3 (c + 1)) ↔ ((c : Int) % w 0 0 + 1 < w 0 0 ∧ w 3 (c + 1) < w 2 c - w 0 4) := by
        rw [modS hst, Nat.add_sub_cancel]
        constructor <;> intro q <;> exact ⟨q.1, by omega⟩
      simp only [e]) (fun c hc => if_neg (fun q => by rw [show c = 0 by omega] at q; exact mod0 _ q.1)) (fun c hc hc2 => if_neg (fun q => modE hw (c := c) (by omega) q.1))
  unfold hcv
  rw [e27, t3, t4, s1, s2, s3]
theorem lb_full (hw : wOK T w) (h : un w = 0) : lbH w = hrm w ∧ lbE w = w 0 3 := by
  refine ⟨?_, ?_⟩
  · rw [lbH, hcv_full hw h, htc_full hw h]
    omega
  · rw [lbE, if_pos (by have := (used_full hw h).2; omega)]
end P3
