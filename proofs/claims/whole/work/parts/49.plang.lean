/-! The class's search, from the wall on -/
section P7
variable {d : Nat} {g : pG} {σ : pM} {o a : Nat} {T : Int}
theorem c_readWall (hg : gPl g o) (ha : gWl g a) (hd : a + 5 < o ∨ o + 5 < a) : ∃ σ2, Ca (d + 1) yX3_readWall [vR (some o), vR (some a)] g σ [] g σ2 ∧ (σ2 o 4 = σ a 0 ∧ σ2 o 5 = σ a 1 ∧ σ2 o 6 = σ a 2 ∧ σ2 o 7 = σ a 4 ∧ σ2 o 8 = σ a 5 ∧ σ2 o 9 = σ a 6) ∧ Fr o σ σ2 := by
  have key : ∀ {j k : Nat} {v : Int} {s : pM}, (up2 s o j v) a k = s a k := fun {j k v s} => congrFun (up2_ne (show a ≠ o by omega)) k
  refine ⟨up2 (up2 (up2 (up2 (up2 (up2 σ o 4 (σ a 0)) o 5 (σ a 1)) o 6 (σ a 2)) o 7 (σ a 4)) o 8 (σ a 5)) o 9 (σ a 6), ca_in cd_X3_readWall bd_X3_readWall rfl (by decide) (Nat.le_of_ble_eq_true rfl) (fun Q P hP hQ => ?_), ?_, ?_⟩
  · refine kk_X3_readWall_0 hP o a hg ha (kk_X3_readWall_8 hP o a hg ha (kk_X3_readWall_16 hP o a hg ha (kk_X3_readWall_24 hP o a hg ha (kk_X3_readWall_32 hP o a hg ha (kk_X3_readWall_40 hP o a hg ha (kk_X3_readWall_48 hP o a hg ha ?_))))))
    simp only [key]
    exact hQ
  · simp [up2]
  · exact ((((Fr.up0.tr Fr.up0).tr Fr.up0).tr Fr.up0).tr Fr.up0).tr Fr.up0
/-- k cells have been read -/
def rcI (σ s : pM) (o : Nat) (w : Wl) (k : Nat) : Prop := (s o 1 = su (fun c => if w 2 c = -1 then 1 else 0) k ∧ s o 10 = su (fun c => w 1 c) k ∧ s o 11 = lsn w k) ∧ (∀ c, c < k → s (o + 1) c = w 1 c ∧ s (o + 2) c = dn w c) ∧ (∀ x, x ≠ o → x ≠ o + 1 → x ≠ o + 2 → s x = σ x) ∧ ∀ i, i ≠ 1 → i ≠ 10 → i ≠ 11 → s o i = σ o i
theorem c_readCells (hg : gPl g o) (ha : gWl g a) (hd : a + 5 < o ∨ o + 5 < a) (hw : wOK T (cv σ a)) (hT : T ≤ 1000000) (h4 : σ o 4 = σ a 0) (h6 : σ o 6 = σ a 2) : ∃ σ2, Ca (d + 2) yX3_readCells [vR (some o), vR (some a)] g σ [] g σ2 ∧ rcI σ σ2 o (cv σ a) (cv σ a 0 2).toNat := by
  have hr := hw.raw
  have hcl := hw.cells
  have e02 : cv σ a 0 2 = σ a 2 := cv0 (by decide)
  have e00 : cv σ a 0 0 = σ a 0 := cv0 (by decide)
  have loop : ∀ (m k : Nat) (s : pM), (k : Int) + m = σ a 2 → rcI σ s o (cv σ a) k → ∃ σ2, rcI σ σ2 o (cv σ a) (cv σ a 0 2).toNat ∧ ∀ (Q : pQ) (P : pP), Clo (pCall (d + 1)) yX3_readCells cX3_readCells none 3 0 0 Q P → Q [] g σ2 → P 17 [(0, vR (some o)), (1, vR (some a)), (2, vI (k : Int))] [] g s 0 0 := by
    intro m
    induction m with
    | zero =>
      intro k s hk hI
      refine ⟨s, by rw [e02, show (σ a 2).toNat = k by omega]; exact hI, fun Q P hP hQ => ?_⟩
      refine kk_X3_readCells_17 hP o a _ hg ha ?_
      rw [hI.2.2.2 6 (by decide) (by decide) (by decide), h6]
      exact ⟨rO (by omega) (by omega), rO (by omega) (by omega), fun _ => hQ, fun z => absurd (by omega) z⟩
    | succ m ih =>
      intro k s hk hI
      have hk9 : k < 9 := by omega
      have hk2 : (k : Int) < cv σ a 0 2 := by omega
      obtain ⟨⟨i1, i10, i11⟩, ir, ix, io⟩ := hI
      have hnd := hw.nd hk9
      have hls := lsn_bd hw k (by omega)
      have en : s (a + 1) k = cv σ a 1 k := by rw [ix (a + 1) (by omega) (by omega) (by omega), cv1 hk9]
      have ed : s (a + 3) k = cv σ a 3 k := by rw [ix (a + 3) (by omega) (by omega) (by omega), cv3 hk9]
      -- after needs and all needs
      have cv1' : ∀ s2 : pM, (∀ x, x ≠ o → x ≠ o + 1 → x ≠ o + 2 → s2 x = σ x) → cv s2 a = cv σ a := fun s2 h => cv_ne (fun f hf => h (a + f) (by omega) (by omega) (by omega))
      let s1 : pM := up2 (up2 s (o + 1) k (cv σ a 1 k)) o 10 (su (fun c => cv σ a 1 c) (k + 1))
      let s2 : pM := if cv σ a 2 k = -1 then up2 (up2 s1 (o + 2) k 1000000000) o 1 (su (fun c => if cv σ a 2 c = -1 then 1 else 0) (k + 1)) else up2 s1 (o + 2) k (cv σ a 3 k)
      let s3 : pM := if (k : Int) + σ a 0 < σ a 2 then s2 else up2 s2 o 11 (min (lsn (cv σ a) k) (cv σ a 1 k))
      have x1 : ∀ x, x ≠ o → x ≠ o + 1 → x ≠ o + 2 → s1 x = σ x := fun x h1 h2 h3 => by
        show (up2 (up2 s (o + 1) k (cv σ a 1 k)) o 10 _) x = _
        rw [up2_ne h1, up2_ne h2, ix x h1 h2 h3]
      have hI3 : rcI σ s3 o (cv σ a) (k + 1) := by
        have es2 : ∀ x, x ≠ o → x ≠ o + 2 → s2 x = s1 x := fun x h1 h2 => by
          show (if cv σ a 2 k = -1 then _ else _ : pM) x = _
          split
          · rw [up2_ne h1, up2_ne h2]
          · rw [up2_ne h2]
        have es3 : ∀ x, x ≠ o → s3 x = s2 x := fun x h1 => by
          show (if (k : Int) + σ a 0 < σ a 2 then _ else _ : pM) x = _
          split
          · rfl
          · rw [up2_ne h1]
        have eo2 : ∀ i, i ≠ 1 → s2 o i = s1 o i := fun i h1 => by
          show (if cv σ a 2 k = -1 then _ else _ : pM) o i = _
          split
          · simp [up2, h1]
          · rw [up2_ne (by omega)]
        have eo3 : ∀ i, i ≠ 11 → s3 o i = s2 o i := fun i h1 => by
          show (if (k : Int) + σ a 0 < σ a 2 then _ else _ : pM) o i = _
          split
          · rfl
          · simp [up2, h1]
        refine ⟨⟨?_, ?_, ?_⟩, fun c hc => ⟨?_, ?_⟩, fun x h1 h2 h3 => ?_, fun i h1 h2 h3 => ?_⟩
        · rw [eo3 1 (by decide), su]
          show (if cv σ a 2 k = -1 then _ else _ : pM) o 1 = _
          split
          · rename_i q
            have : (up2 (up2 s1 (o + 2) k 1000000000) o 1 (su (fun c => if cv σ a 2 c = -1 then 1 else 0) (k + 1))) o 1 = su (fun c => if cv σ a 2 c = -1 then 1 else 0) (k + 1) := by simp [up2]
            rw [this, su, if_pos q]
          · have : s1 o 1 = s o 1 := by
              show (up2 (up2 s (o + 1) k (cv σ a 1 k)) o 10 _) o 1 = _
              simp [up2]
            rw [up2_ne (by omega), this, i1]
            omega
        · rw [eo3 10 (by decide), eo2 10 (by decide)]
          show (up2 (up2 s (o + 1) k (cv σ a 1 k)) o 10 _) o 10 = _
          simp [up2]
        · rw [lsn, e00, e02]
          show (if (k : Int) + σ a 0 < σ a 2 then _ else _ : pM) o 11 = _
          split
          · rw [eo2 11 (by decide)]
            show (up2 (up2 s (o + 1) k (cv σ a 1 k)) o 10 _) o 11 = _
            have : (up2 (up2 s (o + 1) k (cv σ a 1 k)) o 10 (su (fun c => cv σ a 1 c) (k + 1))) o 11 = s o 11 := by simp [up2]
            rw [this, i11]
          · simp [up2]
        · rw [es3 _ (by omega), es2 _ (by omega) (by omega)]
          show (up2 (up2 s (o + 1) k (cv σ a 1 k)) o 10 _) (o + 1) c = _
          rw [up2_ne (by omega)]
          by_cases hck : c = k
          · simp [up2, hck]
          · have : (up2 s (o + 1) k (cv σ a 1 k)) (o + 1) c = s (o + 1) c := by simp [up2, hck]
            rw [this, (ir c (by omega)).1]
        · rw [es3 _ (by omega)]
          show (if cv σ a 2 k = -1 then _ else _ : pM) (o + 2) c = _
          have so2 : s1 (o + 2) = s (o + 2) := by
            show (up2 (up2 s (o + 1) k (cv σ a 1 k)) o 10 _) (o + 2) = _
            rw [up2_ne (by omega), up2_ne (by omega)]
          by_cases hck : c = k
          · subst hck
            unfold dn
            split
            · simp [up2]
            · simp [up2]
          · rw [← (ir c (by omega)).2, ← so2]
            split
            · simp [up2, hck]
            · simp [up2, hck]
        · rw [es3 x h1, es2 x h1 h3, x1 x h1 h2 h3]
        · rw [eo3 i h3, eo2 i h1, ← io i h1 h2 h3]
          show (up2 (up2 s (o + 1) k (cv σ a 1 k)) o 10 _) o i = _
          simp [up2, h2]
      obtain ⟨σ2, r1, r2⟩ := ih (k + 1) s3 (by omega) hI3
      refine ⟨σ2, r1, fun Q P hP hQ => ?_⟩
      have h5 := r2 Q P hP hQ
      have h123 := kk_X3_readCells_123 hP o a (k : Int) hg ha h5
      have o6 : s2 o 6 = σ a 2 := by
        rw [← h6, ← io 6 (by decide) (by decide) (by decide)]
        show (if cv σ a 2 k = -1 then _ else _ : pM) o 6 = _
        have z1 : s1 o 6 = s o 6 := by
          show (up2 (up2 s (o + 1) k (cv σ a 1 k)) o 10 _) o 6 = _
          simp [up2]
        rw [← z1]
        split <;> simp [up2]
      have o4 : s2 o 4 = σ a 0 := by
        rw [← h4, ← io 4 (by decide) (by decide) (by decide)]
        show (if cv σ a 2 k = -1 then _ else _ : pM) o 4 = _
        have z1 : s1 o 4 = s o 4 := by
          show (up2 (up2 s (o + 1) k (cv σ a 1 k)) o 10 _) o 4 = _
          simp [up2]
        rw [← z1]
        split <;> simp [up2]
      have o11 : s2 o 11 = lsn (cv σ a) k := by
        rw [← i11]
        show (if cv σ a 2 k = -1 then _ else _ : pM) o 11 = _
        have z1 : s1 o 11 = s o 11 := by
          show (up2 (up2 s (o + 1) k (cv σ a 1 k)) o 10 _) o 11 = _
          simp [up2]
        rw [← z1]
        split <;> simp [up2]
      have n2 : s2 (o + 1) k = cv σ a 1 k := by
        show (if cv σ a 2 k = -1 then _ else _ : pM) (o + 1) k = _
        have z1 : s1 (o + 1) k = cv σ a 1 k := by
          show (up2 (up2 s (o + 1) k (cv σ a 1 k)) o 10 _) (o + 1) k = _
          simp [up2]
        rw [← z1]
        split <;> simp [up2]
      have h93 : P 93 [(0, vR (some o)), (1, vR (some a)), (2, vI (k : Int))] [] g s2 0 0 := by
        refine kk_X3_readCells_93 hP o a _ hg ha ?_
        rw [o4, o6, Int.toNat_natCast, o11, n2]
        refine ⟨rO (by omega) (by omega), rO (by omega) (by omega), fun z => ?_, fun z => ⟨⟨by omega, by omega⟩, _, c_min (d := d) (rO (by omega) (by omega)) (rO (by omega) (by omega)), ?_⟩⟩
        · have : s3 = s2 := if_pos z
          rw [← this]; exact h123
        · have : s3 = up2 s2 o 11 (min (lsn (cv σ a) k) (cv σ a 1 k)) := if_neg z
          rw [← this]; exact h123
      have hcs : cv s1 a = cv σ a := cv1' s1 x1
      have hisP := c_isPn (d := d) (σ := s1) (o := a) (c := k) (T := T) ha (by rw [hcs]; exact hw) hT hk9
      rw [hcs] at hisP
      have h52 : P 52 [(0, vR (some o)), (1, vR (some a)), (2, vI (k : Int))] [] g s1 0 0 := by
        have y1 : (up2 s1 (o + 2) k 1000000000) o 1 + 1 = su (fun c => if cv σ a 2 c = -1 then 1 else 0) k + 1 := by
          rw [up2_ne (by omega), ← i1]
          show (up2 (up2 s (o + 1) k (cv σ a 1 k)) o 10 _) o 1 + 1 = _
          simp [up2]
        have y3 : s1 (a + 3) k = cv σ a 3 k := by rw [x1 (a + 3) (by omega) (by omega) (by omega), cv3 hk9]
        refine kk_X3_readCells_52 hP o a _ hg ha ⟨_, hisP, b2_iR _, fun z => ⟨⟨by omega, by omega⟩, ?_⟩, fun z => ⟨⟨by omega, by omega⟩, ⟨by omega, by omega⟩, ?_⟩⟩
        · have zz := Decidable.not_not.mp (b2_0 z)
          rw [Int.toNat_natCast, y1]
          have : s2 = up2 (up2 s1 (o + 2) k 1000000000) o 1 (su (fun c => if cv σ a 2 c = -1 then 1 else 0) k + 1) := by
            show (if cv σ a 2 k = -1 then _ else _) = _
            rw [if_pos zz, su, if_pos zz]
          rw [← this]
          exact h93
        · have zz := b2_1 z
          rw [Int.toNat_natCast, y3]
          have : s2 = up2 s1 (o + 2) k (cv σ a 3 k) := if_neg zz
          rw [← this]
          exact h93
      refine kk_X3_readCells_17 hP o a _ hg ha ?_
      rw [io 6 (by decide) (by decide) (by decide), h6, Int.toNat_natCast, en]
      refine ⟨rO (by omega) (by omega), rO (by omega) (by omega), fun z => absurd z (by omega), fun _ => ⟨⟨by omega, by omega⟩, ⟨by omega, by omega⟩, ?_⟩⟩
      refine kk_X3_readCells_37 hP o a _ hg ha ⟨⟨by omega, by omega⟩, ?_⟩
      have w1 : (up2 s (o + 1) k (cv σ a 1 k)) o 10 = su (fun c => cv σ a 1 c) k := by rw [up2_ne (by omega), i10]
      have w2 : (up2 s (o + 1) k (cv σ a 1 k)) (o + 1) k = cv σ a 1 k := by simp [up2]
      rw [Int.toNat_natCast, w1, w2]
      exact h52
  obtain ⟨σ2, r1, r2⟩ := loop (σ a 2).toNat 0 (up2 (up2 (up2 σ o 1 0) o 10 0) o 11 3) (by omega) (by
    refine ⟨⟨by simp [up2, su], by simp [up2, su], by simp [up2, lsn]⟩, fun c hc => by omega, fun x h1 _ _ => ?_, fun i h1 h2 h3 => ?_⟩
    · rw [up2_ne h1, up2_ne h1, up2_ne h1]
    · simp [up2, h1, h2, h3])
  exact ⟨σ2, ca_in cd_X3_readCells bd_X3_readCells rfl (by decide) (Nat.le_of_ble_eq_true rfl) (fun Q P hP hQ => kk_X3_readCells_0 hP o a hg ha (r2 Q P hP hQ)), r1⟩
end P7
