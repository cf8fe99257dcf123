/-! What a wall is, and what is told of it -/
abbrev Wl : Type := Nat → Nat → Int
/-- the class's wall at o, the model's row at r, both as one picture: 0 numbers (strips, layers, cells, time, age, heavy, light, trucks), 1 needs, 2 begun, 3 done, 4 when trucks come, 5 their loads -/
def cv (σ : pM) (o : Nat) : Wl := fun f j => if (f = 0 ∧ j < 8) ∨ (1 ≤ f ∧ f ≤ 5 ∧ j < 9) then σ (o + f) j else 0
def mF (f : Nat) : Nat := if f = 1 then 25 else if f = 2 then 34 else if f = 3 then 43 else if f = 4 then 7 else 16
def mv (σ : pM) (r : Nat) : Wl := fun f j => if f = 0 then (if j = 0 then σ 167 r else if j = 1 then σ 167 (r + 1) else if j = 2 then σ 167 r * σ 167 (r + 1) else if j = 3 then σ 167 (r + 2) else if j = 4 then σ 167 (r + 4) else if j = 5 then σ 167 (r + 5) else if j = 6 then σ 167 (r + 6) else if j = 7 then σ 167 (r + 3) else 0) else if 1 ≤ f ∧ f ≤ 5 ∧ j < 9 then σ 167 (r + mF f + j) else 0
theorem cv0 {σ : pM} {o j : Nat} (h : j < 8) : cv σ o 0 j = σ o j := by simp [cv, h]
theorem cvf {σ : pM} {o f j : Nat} (h1 : 1 ≤ f) (h2 : f ≤ 5) (h : j < 9) : cv σ o f j = σ (o + f) j := by simp [cv, h, h1, h2]
theorem cv1 {σ : pM} {o j : Nat} (h : j < 9) : cv σ o 1 j = σ (o + 1) j := cvf (by decide) (by decide) h
theorem cv2 {σ : pM} {o j : Nat} (h : j < 9) : cv σ o 2 j = σ (o + 2) j := cvf (by decide) (by decide) h
theorem cv3 {σ : pM} {o j : Nat} (h : j < 9) : cv σ o 3 j = σ (o + 3) j := cvf (by decide) (by decide) h
theorem cv4 {σ : pM} {o j : Nat} (h : j < 9) : cv σ o 4 j = σ (o + 4) j := cvf (by decide) (by decide) h
theorem cv5 {σ : pM} {o j : Nat} (h : j < 9) : cv σ o 5 j = σ (o + 5) j := cvf (by decide) (by decide) h
/-- the wall is sound: its bounds; TIME is at most T -/
def wOK (T : Int) (w : Wl) : Prop := (1 ≤ w 0 0 ∧ w 0 0 ≤ 3) ∧ (1 ≤ w 0 1 ∧ w 0 1 ≤ 3) ∧ w 0 2 = w 0 0 * w 0 1 ∧ (0 ≤ w 0 3 ∧ w 0 3 ≤ T) ∧ (1 ≤ w 0 4 ∧ w 0 4 ≤ 40) ∧ (0 ≤ w 0 5 ∧ w 0 5 ≤ 9) ∧ (0 ≤ w 0 6 ∧ w 0 6 ≤ 9) ∧ (0 ≤ w 0 7 ∧ w 0 7 ≤ 9) ∧ (∀ k, k < 9 → 0 ≤ w 4 k ∧ w 4 k ≤ 200 ∧ 0 ≤ w 5 k ∧ w 5 k ≤ 4) ∧ (∀ c, c < 9 → 1 ≤ w 1 c ∧ w 1 c ≤ 3) ∧ (∀ c, c < 9 → (w 2 c = -1 ∧ w 3 c = -1) ∨ (0 ≤ w 2 c ∧ w 3 c = w 2 c + w 1 c ∧ w 3 c ≤ w 0 3 ∧ (c : Int) < w 0 2))
theorem wOK.cells {T : Int} {w : Wl} (h : wOK T w) : 1 ≤ w 0 2 ∧ w 0 2 ≤ 9 ∧ w 0 0 ≤ w 0 2 := by
  obtain ⟨h1, h2, h3, -⟩ := h
  rw [h3]
  have a : w 0 0 = 1 ∨ w 0 0 = 2 ∨ w 0 0 = 3 := by omega
  have b : w 0 1 = 1 ∨ w 0 1 = 2 ∨ w 0 1 = 3 := by omega
  rcases a with a | a | a <;> rcases b with b | b | b <;> rw [a, b] <;> decide
theorem wOK.tr {T : Int} {w : Wl} (h : wOK T w) {k : Nat} (hk : k < 9) : 0 ≤ w 4 k ∧ w 4 k ≤ 200 ∧ 0 ≤ w 5 k ∧ w 5 k ≤ 4 := h.2.2.2.2.2.2.2.2.1 k hk
theorem wOK.nd {T : Int} {w : Wl} (h : wOK T w) {k : Nat} (hk : k < 9) : 1 ≤ w 1 k ∧ w 1 k ≤ 3 := h.2.2.2.2.2.2.2.2.2.1 k hk
theorem wOK.bd {T : Int} {w : Wl} (h : wOK T w) {c : Nat} (hk : c < 9) : (w 2 c = -1 ∧ w 3 c = -1) ∨ (0 ≤ w 2 c ∧ w 3 c = w 2 c + w 1 c ∧ w 3 c ≤ w 0 3 ∧ (c : Int) < w 0 2) := h.2.2.2.2.2.2.2.2.2.2 c hk
theorem wOK.tm {T : Int} {w : Wl} (h : wOK T w) : 0 ≤ w 0 3 ∧ w 0 3 ≤ T := h.2.2.2.1
theorem wOK.nt {T : Int} {w : Wl} (h : wOK T w) : 0 ≤ w 0 7 ∧ w 0 7 ≤ 9 := h.2.2.2.2.2.2.2.1
theorem wOK.ag {T : Int} {w : Wl} (h : wOK T w) : 1 ≤ w 0 4 ∧ w 0 4 ≤ 40 := h.2.2.2.2.1
theorem wOK.hv {T : Int} {w : Wl} (h : wOK T w) : 0 ≤ w 0 5 ∧ w 0 5 ≤ 9 := h.2.2.2.2.2.1
theorem wOK.lg {T : Int} {w : Wl} (h : wOK T w) : 0 ≤ w 0 6 ∧ w 0 6 ≤ 9 := h.2.2.2.2.2.2.1
theorem wOK.st {T : Int} {w : Wl} (h : wOK T w) : 1 ≤ w 0 0 ∧ w 0 0 ≤ 3 := h.1
theorem wOK.ly {T : Int} {w : Wl} (h : wOK T w) : 1 ≤ w 0 1 ∧ w 0 1 ≤ 3 := h.2.1
/-- sums -/
def su (f : Nat → Int) : Nat → Int
  | 0 => 0
  | n + 1 => su f n + f n
theorem su_cong {f g : Nat → Int} : ∀ {n : Nat}, (∀ k, k < n → f k = g k) → su f n = su g n
  | 0, _ => rfl
  | n + 1, h => by rw [su, su, su_cong (fun k hk => h k (by omega)), h n (by omega)]
theorem su_more {f : Nat → Int} {n : Nat} : ∀ m, (∀ k, n ≤ k → k < n + m → f k = 0) → su f (n + m) = su f n
  | 0, _ => rfl
  | m + 1, h => by
    rw [show n + (m + 1) = (n + m) + 1 by omega, su, su_more m (fun k h1 h2 => h k h1 (by omega)), h (n + m) (by omega) (by omega), Int.add_zero]
theorem su_to {f : Nat → Int} {n N : Nat} (hn : n ≤ N) (h : ∀ k, n ≤ k → k < N → f k = 0) : su f N = su f n := by
  obtain ⟨m, rfl⟩ : ∃ m, N = n + m := ⟨N - n, by omega⟩
  exact su_more m h
theorem su_bd {f : Nat → Int} {a b : Int} : ∀ {n : Nat}, (∀ k, k < n → a ≤ f k ∧ f k ≤ b) → n * a ≤ su f n ∧ su f n ≤ n * b
  | 0, _ => by simp [su]
  | n + 1, h => by
    have h1 := su_bd (n := n) (fun k hk => h k (by omega))
    have h2 := h n (by omega)
    have e1 : ((n + 1 : Nat) : Int) * a = n * a + a := by rw [Int.natCast_add, Int.add_mul]; simp
    have e2 : ((n + 1 : Nat) : Int) * b = n * b + b := by rw [Int.natCast_add, Int.add_mul]; simp
    rw [su, e1, e2]
    omega
def b2 (p : Prop) [Decidable p] : Int := if p then 1 else 0
theorem b2_01 (p : Prop) [Decidable p] : b2 p = 0 ∨ b2 p = 1 := by unfold b2; split <;> simp
theorem b2_t {p : Prop} [Decidable p] (h : p) : b2 p = 1 := if_pos h
theorem b2_f {p : Prop} [Decidable p] (h : ¬ p) : b2 p = 0 := if_neg h
/-- what POURED CELLS needed; what has come; when so much has come -/
def used (w : Wl) : Int := su (fun c => if w 2 c = -1 then 0 else w 1 c) 9
def bro (w : Wl) (t : Int) : Int := su (fun k => if w 4 k ≤ t then w 5 k else 0) (w 0 7).toNat
def bAt (w : Wl) (n : Int) : Nat → Int
  | 0 => -1
  | k + 1 => if (bAt w n k = -1 ∨ w 4 k < bAt w n k) ∧ n ≤ bro w (w 4 k) then w 4 k else bAt w n k
/-- when a cell would begin -/
def cn0 (w : Wl) (c : Nat) : Prop := (c : Int) < w 0 2 ∧ w 2 c = -1 ∧ (w 0 0 ≤ (c : Int) → ¬ w 2 (c - (w 0 0).toNat) = -1)
def stt (w : Wl) (c : Nat) : Int := if (c : Int) < w 0 2 ∧ w 2 c = -1 ∧ (w 0 0 ≤ (c : Int) → ¬ w 2 (c - (w 0 0).toNat) = -1) then (if bAt w (used w + w 1 c) (w 0 7).toNat = -1 then -1 else max (w 0 3) (bAt w (used w + w 1 c) (w 0 7).toNat)) else -1
def fil (w : Wl) (c : Nat) : Wl := if stt w c = -1 then w else up2 (up2 (up2 w 2 c (stt w c)) 3 c (stt w c + w 1 c)) 0 3 (stt w c + w 1 c)
/-- edges -/
def acr (w : Wl) (e : Nat) : Int := if (e / 3 : Nat) < w 0 2 then (if e % 3 = 0 then (if ((e / 3 : Nat) : Int) + w 0 0 < w 0 2 then (e / 3 : Nat) + w 0 0 else -1) else if e % 3 = 1 then (if ((e / 3 : Nat) : Int) % w 0 0 + 1 < w 0 0 then (e / 3 : Nat) + 1 else -1) else (if 0 < ((e / 3 : Nat) : Int) % w 0 0 then ((e / 3 : Nat) : Int) - 1 else -1)) else -1
abbrev opn (w : Wl) (e : Nat) : Prop := acr w e ≠ -1 ∧ w 2 (e / 3) ≠ -1 ∧ w 2 (acr w e).toNat = -1
abbrev jnt (w : Wl) (e : Nat) : Prop := acr w e ≠ -1 ∧ w 2 (e / 3) ≠ -1 ∧ w 0 4 < (if w 2 (acr w e).toNat = -1 then w 0 3 else w 2 (acr w e).toNat) - w 3 (e / 3)
def hof (w : Wl) (e : Nat) : Int := if e % 3 = 0 then w 0 5 else w 0 6
