/-! The rules are sound, two: cells -/
theorem pIn0 : ∀ w ∈ u_ws RX0 TX0 3, w ∈ lw_ok := by decide +kernel
theorem pIn1 : ∀ w ∈ u_ws RX1 TX1 3, w ∈ lw_ok := by decide +kernel
theorem pIn2 : ∀ w ∈ u_ws RX2 TX2 3, w ∈ lw_ok := by decide +kernel
theorem pIn3 : ∀ w ∈ u_ws RX3 TX3 18, w ∈ lw_ok := by decide +kernel
theorem pIn4 : ∀ w ∈ u_ws RX4 TX4 13, w ∈ lw_ok := by decide +kernel
theorem pIn5 : ∀ w ∈ u_ws RX5 TX5 9, w ∈ lw_ok := by decide +kernel
theorem pIn6 : ∀ w ∈ u_ws RX6 TX6 14, w ∈ lw_ok := by decide +kernel
def pTf (ci : Nat) : Nat → FieldType := match ci with
  | 0 => tyX0 | 1 => tyX1 | 2 => tyX2 | 3 => tyX3 | 4 => tyX4 | 5 => tyX5 | _ => tyX6
/-- what the tables say of a class of ours -/
def pCf (ci : Nat) (C : String) (T : u_T) (N : Nat) : Prop := (∀ w ∈ u_ws C T N, w ∈ lw_ok) ∧ (∀ k, k < N → parseFieldDescriptor (T k).2.2.1 = some (pTf ci k)) ∧ (∀ a, a < N → ∀ b, b < N → a ≠ b → (T a).2.1 ≠ (T b).2.1)
theorem pCls {ci : Nat} {C : String} {T : u_T} {N : Nat} (hc : vwCl[ci]? = some (C, T, N)) : pCf ci C T N := by
  match ci, hc with
  | 0, hc => cases hc; exact ⟨pIn0, tyX0_ok, nmX0⟩
  | 1, hc => cases hc; exact ⟨pIn1, tyX1_ok, nmX1⟩
  | 2, hc => cases hc; exact ⟨pIn2, tyX2_ok, nmX2⟩
  | 3, hc => cases hc; exact ⟨pIn3, tyX3_ok, nmX3⟩
  | 4, hc => cases hc; exact ⟨pIn4, tyX4_ok, nmX4⟩
  | 5, hc => cases hc; exact ⟨pIn5, tyX5_ok, nmX5⟩
  | 6, hc => cases hc; exact ⟨pIn6, tyX6_ok, nmX6⟩
  | k + 7, hc => simp [vwCl] at hc
/-- the kinds of fields, by their types -/
def pKf (t : FieldType) (r z : Bool) : Bool := match t with
  | .int => !r && !z
  | .boolean => !r && z
  | .object _ => r
  | .array _ => r
  | _ => false
theorem pKf_ok : ∀ ci, ci < 7 → ∀ f, f < pN ci → pKf (pTf ci f) (pF ci f) (pZ ci f) = true := by decide +kernel
theorem pN_ok {ci : Nat} {C : String} {T : u_T} {N : Nat} (hc : vwCl[ci]? = some (C, T, N)) : N = pN ci ∧ ci < 7 := by
  match ci, hc with
  | 0, hc => cases hc; exact ⟨rfl, by decide⟩
  | 1, hc => cases hc; exact ⟨rfl, by decide⟩
  | 2, hc => cases hc; exact ⟨rfl, by decide⟩
  | 3, hc => cases hc; exact ⟨rfl, by decide⟩
  | 4, hc => cases hc; exact ⟨rfl, by decide⟩
  | 5, hc => cases hc; exact ⟨rfl, by decide⟩
  | 6, hc => cases hc; exact ⟨rfl, by decide⟩
  | k + 7, hc => simp [vwCl] at hc
theorem pFit {ci f : Nat} (h7 : ci < 7) (hf : f < pN ci) {z : Int} (hr : pF ci f = false) (hz : pZ ci f = true → z = 0 ∨ z = 1) : narrow (pTf ci f) (.int (iv z)) = .int (iv z) ∧ fits (pTf ci f) (.int (iv z)) = true := by
  have h := pKf_ok ci h7 f hf
  cases ht : pTf ci f <;> rw [ht] at h <;> simp [pKf, hr] at h
  · exact ⟨rfl, rfl⟩
  · rcases hz h with rfl | rfl <;> exact ⟨rfl, rfl⟩
theorem pFitR {ci f : Nat} (h7 : ci < 7) (hf : f < pN ci) (B b : Nat) (r : Option Nat) (hr : pF ci f = true) : narrow (pTf ci f) (tV B b (vR r)) = tV B b (vR r) ∧ fits (pTf ci f) (tV B b (vR r)) = true := by
  have h := pKf_ok ci h7 f hf
  cases ht : pTf ci f <;> rw [ht] at h <;> simp [pKf, hr] at h <;> cases r <;> exact ⟨rfl, rfl⟩
theorem pDef {ci f : Nat} (h7 : ci < 7) (hf : f < pN ci) (B b : Nat) : defaultValue (pTf ci f) = tV B b (if pF ci f = true then vR none else vI 0) := by
  have h := pKf_ok ci h7 f hf
  cases ht : pTf ci f <;> rw [ht] at h <;> cases hr : pF ci f <;> simp [pKf, hr] at h <;> rfl
theorem tA_pos {B b o : Nat} (h : 0 < o) : tA B b o = B + (o - 1) := by
  cases o with
  | zero => omega
  | succ o => rfl
theorem tA_ne {B b o a : Nat} (ho : 0 < o) (ha : 0 < a) (h : a ≠ o) : tA B b a ≠ tA B b o := by
  rw [tA_pos ho, tA_pos ha]; omega
section S2
variable {p : Program} {l : Launch} {e : Env} {R : Room} {s : State} {m : MethodId} {args : Array Value} {below : List Frame} {meth : Method} {c : Code} {D : va_G} {cy : Nat → ClassId} {B b : Nat} {Qf : State → Prop} {y : MethodName} {cc : ByteArray} {nL bc bs : Nat}
theorem pAt_kept {g g2 : pG} {σ σ2 : pM} {o : Nat} {H H2 : Heap} (h : pAt D cy B b g σ o H) (hk : g2.2.1 o = g.2.1 o) (hr : g2.2.2 o = g.2.2 o) (hs : σ2 o = σ o) (hq : H2[tA B b o]? = H[tA B b o]?) : pAt D cy B b g2 σ2 o H2 := by
  unfold pAt pFV at h ⊢
  rw [hk, hr, hs]
  exact ⟨fun h7 => (h.1 h7).kept hq, fun h7 => ⟨(h.2 h7).1, hq.trans (h.2 h7).2⟩⟩
theorem pW_lt {g : pG} {σ : pM} {H : Heap} (hW : pW D cy B b s g σ H) {o : Nat} (h0 : 0 < o) (ho : o < g.1) : tA B b o < H.size := by
  rw [tA_pos h0]
  have := hW.1
  omega
theorem pW_pos {g : pG} {σ : pM} {H : Heap} (hW : pW D cy B b s g σ H) {o : Nat} (hk : (g.2.1 o).1 ≠ 11) : 0 < o := by
  rcases Nat.eq_zero_or_pos o with h | h
  · rw [h] at hk; exact absurd hW.2.2.1 hk
  · exact h
/-- one cell is written -/
theorem pW_set {g g2 : pG} {σ σ2 : pM} {H H2 : Heap} {o : Nat} (hW : pW D cy B b s g σ H) (h0 : 0 < o) (z : H2.size = H.size) (oq : ∀ q, q ≠ tA B b o → H2[q]? = H[q]?) (hn : g2.1 = g.1) (hk : g2.2.1 = g.2.1) (hs : ∀ a, a ≠ o → σ2 a = σ a) (hr : ∀ a, a ≠ o → g2.2.2 a = g.2.2 a) (he : pAt D cy B b g2 σ2 o H2) : pW D cy B b s g2 σ2 H2 := by
  obtain ⟨w1, w2, w3, w4, w5, w6⟩ := hW
  refine ⟨by rw [z, hn]; exact w1, w2, by rw [hk]; exact w3, by rw [hn]; exact w4, ?_, fun a a0 ha => ?_⟩
  · rw [hk, hs 0 (by omega)]
    exact w5.kept (oq b (by rw [tA_pos h0]; omega))
  · by_cases h : a = o
    · rw [h]; exact he
    · exact pAt_kept (w6 a a0 (by rw [← hn]; exact ha)) (by rw [hk]) (hr a h) (hs a h) (oq _ (tA_ne h0 a0 h))
theorem up2_ne {α : Type} {f : Nat → Nat → α} {o k a : Nat} {v : α} (h : a ≠ o) : up2 f o k v a = f a := by
  funext j
  simp [up2, h]
theorem up1_ne {α : Type} {f : Nat → α} {o a : Nat} {v : α} (h : a ≠ o) : up1 f o v a = f a := by
  simp [up1, h]
theorem up1_eq {α : Type} {f : Nat → α} {o : Nat} {v : α} : up1 f o v o = v := by
  simp [up1]
theorem so_getf (X : pX p s m args c D cy y cc nL) : ru_getf y cc (pS p l e R s m args below meth c D cy B b nL Qf) := by
  obtain ⟨hx, hb, hml, hown, hts, hK, hNs⟩ := X
  intro pc q ls st g σ k n i o ci f hd hq ho hk h7 hfl kk H locs l0 hW hS hl
  subst hq
  obtain ⟨C, T, hc, hf, hC, hlink⟩ := hfl
  have h0 := pW_pos hW (o := o) (by omega)
  have hA := (hW.2.2.2.2.2 o h0 ho).1 (by rw [hk]; exact h7)
  rw [hk] at hA
  obtain ⟨cell, q1, q2, q3, q4⟩ := hA
  obtain ⟨hSl, hfc, kC, hkC, hkind⟩ := hK.1 ci _ hc
  obtain ⟨cf, kf, fi, fd, hi, hsl⟩ := hSl f hf
  exact W.getf hx hb hown (hts _ hlink) (by have := hi; rw [hC] at this; exact this) (u_facts hfc hkC (u_lays hts (pCls hc).1 hf) hi).1 q1 (by rw [q3]; exact fun h => by cases h) (v := tV B b (pFV g σ o ci f)) (by rw [hsl]; exact q4 f hf) rfl rfl hd (kk H locs l0 hW hS hl)
theorem so_putf (X : pX p s m args c D cy y cc nL) : ru_putf y cc (pS p l e R s m args below meth c D cy B b nL Qf) := by
  obtain ⟨hx, hb, hml, hown, hts, hK, hNs⟩ := X
  intro pc q ls st g σ k n i o ci f z hd hq ho hk h7 hfl hr hfin hz kk H locs l0 hW hS hl
  subst hq
  obtain ⟨C, T, hc, hf, hC, hlink⟩ := hfl
  obtain ⟨hin, hty, hnm⟩ := pCls hc
  have h0 := pW_pos hW (o := o) (by omega)
  have hA := (hW.2.2.2.2.2 o h0 ho).1 (by rw [hk]; exact h7)
  rw [hk] at hA
  obtain ⟨cell, q1, q2, q3, q4⟩ := hA
  have hap := va_apart (own := y.cls) hts hin (pTf ci) hty hnm hK hc
  obtain ⟨hSl, hfc, kC, hkC, hkind⟩ := hK.1 ci _ hc
  obtain ⟨cf, kf, fi, fd, hi, hsl⟩ := hSl f hf
  have hlay := hts _ (hin _ (u_in_lay hf))
  have hfin2 : (T f).2.2.2 = false := by simpa [pFin, hc] using hfin
  unfold u_lay at hlay
  rw [if_neg (by rw [hfin2]; decide)] at hlay
  have hst := (u_facts hfc hkC (u_lays hts hin hf) hi).1
  obtain ⟨hn1, hn2⟩ := pFit h7 hf hr hz
  have h6 := u_store hfc hkC hkind hlay hi (hty f hf) hn1 hn2
  refine W.putK hx hb (f := fd) ⟨hown, hts _ hlink, ⟨_, _, _, by have := hi; rw [hC] at this; exact this⟩, hst⟩ (by rw [q2]; exact h6) q1 q3 (by rw [hsl]; exact k2_hasslot (q4 f hf)) rfl rfl hd fun H2 e1 e2 e3 => ?_
  rw [hsl] at e1
  refine kk H2 _ l0 (pW_set hW h0 e2 e3 rfl rfl (fun a ha => up2_ne ha) (fun a _ => rfl) ⟨fun _ => ?_, fun h => absurd (by rw [hk]; exact h7) h⟩) (hS.put e2 e3 (by show B ≤ tA B b o; rw [tA_pos h0]; omega)) hl
  rw [hk]
  refine t_OB.to (V := updV (fun j => tV B b (pFV g σ o ci j)) f (.int (iv z))) ⟨_, e1, q2, q3, t_set q4 hap hf _⟩ (fun j _ => ?_)
  by_cases hj : j = f
  · subst hj
    simp [updV, pFV, hr, up2, tV]
  · simp [updV, pFV, up2, hj]
theorem so_putr (X : pX p s m args c D cy y cc nL) (hin2 : y.name = "<init>" → meth.name = y.name) : ru_putr y cc (pS p l e R s m args below meth c D cy B b nL Qf) := by
  obtain ⟨hx, hb, hml, hown, hts, hK, hNs⟩ := X
  intro pc q ls st g σ k n i o ci f r hd hq ho hk h7 hfl hr hfin hyn hycl kk H locs l0 hW hS hl
  subst hq
  obtain ⟨C, T, hc, hf, hC, hlink⟩ := hfl
  obtain ⟨hin, hty, hnm⟩ := pCls hc
  have h0 := pW_pos hW (o := o) (by omega)
  have hA := (hW.2.2.2.2.2 o h0 ho).1 (by rw [hk]; exact h7)
  rw [hk] at hA
  obtain ⟨cell, q1, q2, q3, q4⟩ := hA
  have hap := va_apart (own := y.cls) hts hin (pTf ci) hty hnm hK hc
  obtain ⟨hSl, hfc, kC, hkC, hkind⟩ := hK.1 ci _ hc
  obtain ⟨cf, kf, fi, fd, hi, hsl⟩ := hSl f hf
  have hlay := hts _ (hin _ (u_in_lay hf))
  have hfin2 : (T f).2.2.2 = true := by simpa [pFin, hc] using hfin
  have hCy : C = y.cls := by rw [hc] at hycl; simpa using hycl
  unfold u_lay at hlay
  rw [if_pos hfin2] at hlay
  have hst := (u_facts hfc hkC (u_lays hts hin hf) hi).1
  have hcf : m.cls = cf := by
    obtain ⟨_, _, c2, _, _, _, -, -, hf2, -, -, -, hown2, -⟩ := Cond.laysFinal_spec hlay
    have e1 : c2 = cf := by have := hi.symm.trans hf2; simp at this; exact this.1.symm
    rw [hC, hCy] at hown2
    rw [← e1]; exact Option.some.inj (hown.symm.trans hown2)
  obtain ⟨hn1, hn2⟩ := pFitR h7 hf B b r hr
  have h6 := u_fits hfc hkC hkind (Or.inr hlay) hi (hty f hf) hn1 hn2
  refine W.putFinK hx hb hown (hts _ hlink) (by have := hi; rw [hC] at this; exact this) hst hcf ((hin2 hyn).trans hyn) (by rw [q2]; exact h6) q1 q3 (by rw [hsl]; exact k2_hasslot (q4 f hf)) rfl rfl hd fun H2 e1 e2 e3 => ?_
  rw [hsl] at e1
  refine kk H2 _ l0 (pW_set (g2 := (g.1, g.2.1, up2 g.2.2 o f r)) hW h0 e2 e3 rfl rfl (fun a _ => rfl) (fun a ha => up2_ne ha) ⟨fun _ => ?_, fun h => absurd (by show (g.2.1 o).1 < 7; rw [hk]; exact h7) h⟩) (hS.put e2 e3 (by show B ≤ tA B b o; rw [tA_pos h0]; omega)) hl
  show t_OB _ (D.1 (g.2.1 o).1) (pN (g.2.1 o).1) (D.2 (g.2.1 o).1) H2 _
  rw [hk]
  refine t_OB.to (V := updV (fun j => tV B b (pFV g σ o ci j)) f (tV B b (vR r))) ⟨_, e1, q2, q3, t_set q4 hap hf _⟩ (fun j _ => ?_)
  by_cases hj : j = f
  · subst hj
    simp [updV, pFV, hr, up2]
  · simp [updV, pFV, up2, hj]
/-- an array of ours, of numbers -/
theorem pW_num {g : pG} {σ : pM} {H : Heap} {o kd : Nat} (hW : pW D cy B b s g σ H) (ho : o < g.1) (hk : (g.2.1 o).1 = kd) (h : kd = 7 ∨ kd = 8) : 0 < o ∧ H[tA B b o]? = some (arrV (cy kd) (g.2.1 o).2 (fun j => .int (iv (σ o j)))) := by
  have h0 := pW_pos hW (o := o) (by omega)
  have hA := ((hW.2.2.2.2.2 o h0 ho).2 (by omega)).2
  rw [hk] at hA
  refine ⟨h0, hA.trans ?_⟩
  congr 2
  funext j
  rw [if_pos (by omega)]
  rfl
theorem pW_ref {g : pG} {σ : pM} {H : Heap} {o kd : Nat} (hW : pW D cy B b s g σ H) (ho : o < g.1) (hk : (g.2.1 o).1 = kd) (h : kd = 9 ∨ kd = 10) : 0 < o ∧ H[tA B b o]? = some (arrV (cy kd) (g.2.1 o).2 (fun j => tV B b (vR (g.2.2 o j)))) := by
  have h0 := pW_pos hW (o := o) (by omega)
  have hA := ((hW.2.2.2.2.2 o h0 ho).2 (by omega)).2
  rw [hk] at hA
  refine ⟨h0, hA.trans ?_⟩
  congr 2
  funext j
  rw [if_neg (by omega)]
theorem so_iald (X : pX p s m args c D cy y cc nL) : ru_iald cc (pS p l e R s m args below meth c D cy B b nL Qf) := by
  obtain ⟨hx, hb, hml, hown, hts, hK, hNs⟩ := X
  intro pc q ls st g σ k n o j hd hq ho hk h1 h2 h3 kk H locs l0 hW hS hl
  subst hq
  have hR : iR j := ⟨by omega, by omega⟩
  have hin := iv_in h1 h2 h3
  have hcl := iv_clamp hR
  rcases hk with hk | hk
  · obtain ⟨h0, hA⟩ := pW_num hW ho hk (Or.inl rfl)
    exact W.iald (v := .int (iv (σ o j.toNat))) hx hb hA ((hK.2 0 _ rfl).1 _ _) (fun q => by cases q) (by show ¬ (iv j < 0 ∨ (arrV _ _ _).slots.size ≤ _); rw [arrV_size]; exact hin) (by rw [hcl]; exact arrV_read _ _ (by omega)) rfl rfl hd (kk H locs l0 hW hS hl)
  · have ho0 : o = 0 := by
      rcases Nat.eq_zero_or_pos o with h | h
      · exact h
      · have := ((hW.2.2.2.2.2 o h ho).2 (by omega)).1; omega
    subst ho0
    obtain ⟨scr, x1, x2, x3, x4, x5⟩ := hW.2.2.2.2.1
    exact W.iald (v := .int (iv (σ 0 j.toNat))) hx hb x1 x2 x3 (by rw [x4]; exact hin) (by rw [hcl]; exact x5 _ (by omega)) rfl rfl hd (kk H locs l0 hW hS hl)
theorem so_zald (X : pX p s m args c D cy y cc nL) : ru_zald cc (pS p l e R s m args below meth c D cy B b nL Qf) := by
  obtain ⟨hx, hb, hml, hown, hts, hK, hNs⟩ := X
  intro pc q ls st g σ k n o j hd hq ho hk h1 h2 h3 kk H locs l0 hW hS hl
  subst hq
  have hR : iR j := ⟨by omega, by omega⟩
  have hin := iv_in h1 h2 h3
  have hcl := iv_clamp hR
  obtain ⟨h0, hA⟩ := pW_num hW ho hk (Or.inr rfl)
  exact W.zald (v := .int (iv (σ o j.toNat))) hx hb hA ((hK.2 1 _ rfl).1 _ _) (fun q => by cases q) (by show ¬ (iv j < 0 ∨ (arrV _ _ _).slots.size ≤ _); rw [arrV_size]; exact hin) (by rw [hcl]; exact arrV_read _ _ (by omega)) rfl rfl hd (kk H locs l0 hW hS hl)
theorem so_aald (X : pX p s m args c D cy y cc nL) : ru_aald cc (pS p l e R s m args below meth c D cy B b nL Qf) := by
  obtain ⟨hx, hb, hml, hown, hts, hK, hNs⟩ := X
  intro pc q ls st g σ k n o j hd hq ho hk h1 h2 h3 kk H locs l0 hW hS hl
  subst hq
  have hR : iR j := ⟨by omega, by omega⟩
  have hin := iv_in h1 h2 h3
  have hcl := iv_clamp hR
  rcases hk with hk | hk
  · obtain ⟨h0, hA⟩ := pW_ref hW ho hk (Or.inl rfl)
    exact W.aald (v := tV B b (vR (g.2.2 o j.toNat))) (ty := .object "PourPlan$Image") hx hb hA ((hK.2 2 _ rfl).1 _ _) rfl (fun q => by cases q) (by show ¬ (iv j < 0 ∨ (arrV _ _ _).slots.size ≤ _); rw [arrV_size]; exact hin) (by rw [hcl]; exact arrV_read _ _ (by omega)) rfl rfl hd (kk H locs l0 hW hS hl)
  · obtain ⟨h0, hA⟩ := pW_ref hW ho hk (Or.inr rfl)
    exact W.aald (v := tV B b (vR (g.2.2 o j.toNat))) (ty := .object "PourPlan$Wall") hx hb hA ((hK.2 3 _ rfl).1 _ _) rfl (fun q => by cases q) (by show ¬ (iv j < 0 ∨ (arrV _ _ _).slots.size ≤ _); rw [arrV_size]; exact hin) (by rw [hcl]; exact arrV_read _ _ (by omega)) rfl rfl hd (kk H locs l0 hW hS hl)
theorem so_alen (X : pX p s m args c D cy y cc nL) : ru_alen cc (pS p l e R s m args below meth c D cy B b nL Qf) := by
  obtain ⟨hx, hb, hml, hown, hts, hK, hNs⟩ := X
  intro pc q ls st g σ k n o hd hq ho hk kk H locs l0 hW hS hl
  subst hq
  have hlen : ∀ N : Nat, Int32.ofNat N = iv (N : Int) := fun N => (iv_nat N).symm
  rcases hk with hk | hk | hk | hk | hk
  · obtain ⟨h0, hA⟩ := pW_num hW ho hk (Or.inl rfl)
    exact W.alen (n := iv ((g.2.1 o).2 : Int)) hx hb hA ((hK.2 0 _ rfl).1 _ _) (by rw [arrV_size]; exact hlen _) rfl rfl hd (kk H locs l0 hW hS hl)
  · obtain ⟨h0, hA⟩ := pW_num hW ho hk (Or.inr rfl)
    exact W.alen (n := iv ((g.2.1 o).2 : Int)) hx hb hA ((hK.2 1 _ rfl).1 _ _) (by rw [arrV_size]; exact hlen _) rfl rfl hd (kk H locs l0 hW hS hl)
  · obtain ⟨h0, hA⟩ := pW_ref hW ho hk (Or.inl rfl)
    exact W.alen (n := iv ((g.2.1 o).2 : Int)) hx hb hA ((hK.2 2 _ rfl).1 _ _) (by rw [arrV_size]; exact hlen _) rfl rfl hd (kk H locs l0 hW hS hl)
  · obtain ⟨h0, hA⟩ := pW_ref hW ho hk (Or.inr rfl)
    exact W.alen (n := iv ((g.2.1 o).2 : Int)) hx hb hA ((hK.2 3 _ rfl).1 _ _) (by rw [arrV_size]; exact hlen _) rfl rfl hd (kk H locs l0 hW hS hl)
  · have ho0 : o = 0 := by
      rcases Nat.eq_zero_or_pos o with h | h
      · exact h
      · have := ((hW.2.2.2.2.2 o h ho).2 (by omega)).1; omega
    subst ho0
    obtain ⟨scr, x1, x2, x3, x4, x5⟩ := hW.2.2.2.2.1
    exact W.alen (n := iv ((g.2.1 0).2 : Int)) hx hb x1 x2 (by rw [x4]; exact hlen _) rfl rfl hd (kk H locs l0 hW hS hl)
/-- a store into an array of numbers: the new world -/
theorem pW_stN {g : pG} {σ : pM} {H H2 : Heap} {o kd j : Nat} {z : Int} (hW : pW D cy B b s g σ H) (h0 : 0 < o) (hk : (g.2.1 o).1 = kd) (h : kd = 7 ∨ kd = 8) (e1 : H2[tA B b o]? = some ((arrV (cy kd) (g.2.1 o).2 (fun j => .int (iv (σ o j)))).setSlot j (.int (iv z)))) (e2 : H2.size = H.size) (e3 : ∀ q, q ≠ tA B b o → H2[q]? = H[q]?) : pW D cy B b s g (up2 σ o j z) H2 := by
  refine pW_set hW h0 e2 e3 rfl rfl (fun a ha => up2_ne ha) (fun a _ => rfl) ⟨fun h7 => by omega, fun _ => ⟨by omega, ?_⟩⟩
  rw [e1, hk, arrV_store]
  congr 2
  funext i
  rw [if_pos (by omega)]
  by_cases hi : i = j
  · subst hi
    simp [updV, up2, tV]
  · simp [updV, up2, hi, tV]
theorem so_iast (X : pX p s m args c D cy y cc nL) : ru_iast cc (pS p l e R s m args below meth c D cy B b nL Qf) := by
  obtain ⟨hx, hb, hml, hown, hts, hK, hNs⟩ := X
  intro pc q ls st g σ k n o j z hd hq ho hk h1 h2 h3 kk H locs l0 hW hS hl
  subst hq
  have hR : iR j := ⟨by omega, by omega⟩
  have hin := iv_in h1 h2 h3
  have hcl := iv_clamp hR
  obtain ⟨h0, hA⟩ := pW_num hW ho hk (Or.inl rfl)
  refine W.iast hx hb hA ((hK.2 0 _ rfl).1 _ _) (fun q => by cases q) (by show ¬ (iv j < 0 ∨ (arrV _ _ _).slots.size ≤ _); rw [arrV_size]; exact hin) rfl rfl hd fun H2 e1 e2 e3 => ?_
  rw [hcl] at e1
  exact kk H2 _ l0 (pW_stN hW h0 hk (Or.inl rfl) e1 e2 e3) (hS.put e2 e3 (by show B ≤ tA B b o; rw [tA_pos h0]; omega)) hl
theorem so_zast (X : pX p s m args c D cy y cc nL) : ru_zast cc (pS p l e R s m args below meth c D cy B b nL Qf) := by
  obtain ⟨hx, hb, hml, hown, hts, hK, hNs⟩ := X
  intro pc q ls st g σ k n o j z hd hq ho hk h1 h2 h3 hz kk H locs l0 hW hS hl
  subst hq
  have hR : iR j := ⟨by omega, by omega⟩
  have hin := iv_in h1 h2 h3
  have hcl := iv_clamp hR
  obtain ⟨h0, hA⟩ := pW_num hW ho hk (Or.inr rfl)
  refine W.zast hx hb hA ((hK.2 1 _ rfl).1 _ _) (fun q => by cases q) (by show ¬ (iv j < 0 ∨ (arrV _ _ _).slots.size ≤ _); rw [arrV_size]; exact hin) rfl rfl hd fun H2 e1 e2 e3 => ?_
  rw [hcl, show narrow .boolean (.int (iv z)) = .int (iv z) by rcases hz with rfl | rfl <;> rfl] at e1
  exact kk H2 _ l0 (pW_stN hW h0 hk (Or.inr rfl) e1 e2 e3) (hS.put e2 e3 (by show B ≤ tA B b o; rw [tA_pos h0]; omega)) hl
theorem so_aast (X : pX p s m args c D cy y cc nL) : ru_aast cc (pS p l e R s m args below meth c D cy B b nL Qf) := by
  obtain ⟨hx, hb, hml, hown, hts, hK, hNs⟩ := X
  intro pc q ls st g σ k n o v j hd hq ho hv hk h1 h2 h3 kk H locs l0 hW hS hl
  subst hq
  have hR : iR j := ⟨by omega, by omega⟩
  have hin := iv_in h1 h2 h3
  have hcl := iv_clamp hR
  have fin : ∀ (kd ti ci : Nat) (r : vw_C), (g.2.1 o).1 = kd → (kd = 9 ∨ kd = 10) → (g.2.1 v).1 = ci → ci < 7 → vwCl[ci]? = some r → (pTy cy)[ti]? = some (cy kd, .object r.1) → W p l e R s m args below meth c H locs k n Qf (F0 m pc l0 ((vR (some v) :: vI j :: vR (some o) :: st).map (tV B b))) := by
    intro kd ti ci r hkd hkd2 hci h7 hr ht
    obtain ⟨h0, hA⟩ := pW_ref hW ho hkd hkd2
    have hv0 := pW_pos hW (o := v) (by omega)
    obtain ⟨cellV, g1, g2, g3, -⟩ := (hW.2.2.2.2.2 v hv0 hv).1 (by rw [hci]; exact h7)
    rw [hci] at g2
    have hcls := (hK.1 ci r hr).2
    obtain ⟨kA, comp, k1, k2, k3, -⟩ := (hK.2 ti _ ht).2
    have hcomp : comp = D.1 ci := Option.some.inj (k3.symm.trans hcls.1)
    subst hcomp
    obtain ⟨kC, hkC, -⟩ := hcls.2
    refine W.aast hx hb hA (fun q h => by cases h) (fun h => by cases h) k1 k2 rfl hkC ⟨fun q => hin (Or.inl q), by show _ < (arrV _ _ _).slots.size; rw [arrV_size, hcl]; omega⟩ g1 (fun q h => by rw [g3] at h; cases h) (by rw [g2]; exact hkC) (by rw [g2]; exact va_assign hcls) rfl rfl hd fun H2 e1 e2 e3 => ?_
    rw [hcl] at e1
    refine kk H2 _ l0 (pW_set (g2 := (g.1, g.2.1, up2 g.2.2 o j.toNat (some v))) hW h0 e2 e3 rfl rfl (fun a _ => rfl) (fun a ha => up2_ne ha) ⟨fun h7 => by exact absurd h7 (by show ¬ (g.2.1 o).1 < 7; omega), fun _ => ⟨by show (g.2.1 o).1 ≤ 10; omega, ?_⟩⟩) (hS.put e2 e3 (by show B ≤ tA B b o; rw [tA_pos h0]; omega)) hl
    show H2[tA B b o]? = some (arrV (cy (g.2.1 o).1) (g.2.1 o).2 (fun i => tV B b (if (g.2.1 o).1 < 9 then vI (σ o i) else vR (up2 g.2.2 o j.toNat (some v) o i))))
    rw [e1, hkd, arrV_store]
    congr 2
    funext i
    rw [if_neg (by omega)]
    by_cases hi : i = j.toNat
    · subst hi
      simp [updV, up2, tV, va_rf]
    · simp [updV, up2, hi]
  rcases hk with ⟨hk, hk2⟩ | ⟨hk, hk2⟩
  · exact fin 9 2 2 (RX2, TX2, 3) hk (Or.inl rfl) hk2 (by decide) rfl rfl
  · exact fin 10 3 4 (RX4, TX4, 13) hk (Or.inr rfl) hk2 (by decide) rfl rfl
/-- one cell more -/
theorem pW_push {g : pG} {σ : pM} {H H2 : Heap} {kd : Nat × Nat} (hW : pW D cy B b s g σ H) (z : H2.size = H.size + 1) (oq : ∀ q, q < H.size → H2[q]? = H[q]?) (he : pAt D cy B b (g.1 + 1, up1 g.2.1 g.1 kd, up1 g.2.2 g.1 (fun _ => none)) (up1 σ g.1 (fun _ => 0)) g.1 H2) : pW D cy B b s (g.1 + 1, up1 g.2.1 g.1 kd, up1 g.2.2 g.1 (fun _ => none)) (up1 σ g.1 (fun _ => 0)) H2 := by
  have hlt := fun o => pW_lt hW (o := o)
  obtain ⟨w1, w2, w3, w4, w5, w6⟩ := hW
  refine ⟨by show H2.size + 1 = B + (g.1 + 1); omega, w2, ?_, by show 1 ≤ g.1 + 1; omega, ?_, fun a a0 ha => ?_⟩
  · show (up1 g.2.1 g.1 kd 0).1 = 11
    rw [up1_ne (by omega)]; exact w3
  · show va_X b (up1 g.2.1 g.1 kd 0).2 (fun j => iv (up1 σ g.1 (fun _ => 0) 0 j)) s H2
    rw [up1_ne (by omega), up1_ne (by omega)]
    exact w5.kept (oq b (by omega))
  · by_cases h : a = g.1
    · rw [h]; exact he
    · have ha2 : a < g.1 := by have : a < g.1 + 1 := ha; omega
      exact pAt_kept (w6 a a0 ha2) (up1_ne h) (up1_ne h) (up1_ne h) (oq _ (hlt a a0 ha2))
theorem va_S_push {A : Nat → Prop} {H0 H H2 : Heap} {locs : List Loc} (hS : va_S A H0 H locs) (z : H2.size = H.size + 1) (oq : ∀ q, q < H.size → H2[q]? = H[q]?) : va_S A H0 H2 locs :=
  ⟨Nat.le_trans hS.1 (by omega), fun x h1 h2 => (oq x (Nat.lt_of_lt_of_le h1 hS.1)).trans (hS.2.1 x h1 h2), hS.2.2⟩
theorem pW_nx {g : pG} {σ : pM} {H : Heap} (hW : pW D cy B b s g σ H) : H.size = tA B b g.1 := by
  rw [tA_pos (by have := hW.2.2.2.1; omega)]
  have := hW.1
  have := hW.2.2.2.1
  omega
theorem so_new (X : pX p s m args c D cy y cc nL) (hR : bc ≤ R.cells ∧ bs ≤ R.slots) : ru_new y cc bc bs (pS p l e R s m args below meth c D cy B b nL Qf) := by
  obtain ⟨hx, hb, hml, hown, hts, hK, hNs⟩ := X
  intro pc q ls st g σ k n i ci C T hd hq hc h7 hcl hinst hini h1 h2 kk H locs l0 hW hS hl
  subst hq
  have hKn := hK.1 ci _ hc
  obtain ⟨hin, hty, hnm⟩ := pCls hc
  refine W.newcK hx hb hown (hts _ hcl) (hts _ hinst) (hts _ hini) rfl hd (by omega) (by omega) hKn.2.1 (pW_nx hW) fun H2 kC hkC e1 z1 o1 => ?_
  have hz : H2.size = H.size + 1 := by rw [z1, pW_nx hW]
  have ho : ∀ q, q < H.size → H2[q]? = H[q]? := fun q h => o1 q (by rw [← pW_nx hW]; exact h)
  refine kk H2 locs l0 (pW_push hW hz ho ⟨fun _ => ?_, fun h => absurd (by show (up1 g.2.1 g.1 (ci, 0) g.1).1 < 7; rw [up1_eq]; exact h7) h⟩) (va_S_push hS hz ho) hl
  show t_OB _ (D.1 (up1 g.2.1 g.1 (ci, 0) g.1).1) (pN (up1 g.2.1 g.1 (ci, 0) g.1).1) (D.2 (up1 g.2.1 g.1 (ci, 0) g.1).1) H2 (fun j => tV B b (pFV (g.1 + 1, up1 g.2.1 g.1 (ci, 0), up1 g.2.2 g.1 (fun _ => none)) (up1 σ g.1 (fun _ => 0)) g.1 (up1 g.2.1 g.1 (ci, 0) g.1).1 j))
  rw [up1_eq]
  refine (u_born (pTf ci) hts hin hKn hkC e1 hty).to (fun j hj => ?_)
  rw [pDef h7 hj B b]
  unfold pFV
  show _ = tV B b (if pF ci j = true then vR (up1 g.2.2 g.1 (fun _ => none) g.1 j) else vI (up1 σ g.1 (fun _ => 0) g.1 j))
  rw [up1_eq, up1_eq]
theorem so_newA (X : pX p s m args c D cy y cc nL) (hR : bc ≤ R.cells ∧ bs ≤ R.slots) (at1 : ArrayType) (kd ti : Nat) (hkd : kd = 7 ∨ kd = 8) (hw : Cond.arrayClass (newarray.typeOf at1) ∈ lw_ok) (hti : (pTy cy)[ti]? = some (cy kd, newarray.typeOf at1)) (hdv : defaultValue (newarray.typeOf at1) = .int 0) (hcb : componentBytes (newarray.typeOf at1) ≤ 8) (hra : ∀ cA : ClassId, va_RA s cA (newarray.typeOf at1) → s.vm.findClass ("[" ++ (newarray.typeOf at1).toString) = some cA)
    {pc : Nat} {ls : pL} {st : List pV} {g : pG} {σ : pM} {k n N : Nat} (hd : decode cc pc = .ok (.newarray at1, 2)) (hN : N < 100000) (h1 : k + 1 ≤ bc) (h2 : n + N ≤ bs)
    (kk : pS p l e R s m args below meth c D cy B b nL Qf (pc + 2) ls (vR (some g.1) :: st) (g.1 + 1, up1 g.2.1 g.1 (kd, N), up1 g.2.2 g.1 (fun _ => none)) (up1 σ g.1 (fun _ => 0)) (k + 1) (n + N)) : pS p l e R s m args below meth c D cy B b nL Qf pc ls (vI (N : Int) :: st) g σ k n := by
  obtain ⟨hx, hb, hml, hown, hts, hK, hNs⟩ := X
  intro H locs l0 hW hS hl
  have hRN : iR (N : Int) := ⟨by omega, by omega⟩
  have hn0 : ¬ iv (N : Int) < 0 := fun q => by rw [← iv_0, iv_lt hRN ⟨by decide, by decide⟩] at q; omega
  have hnN : (iv (N : Int)).toNatClampNeg = N := by rw [iv_clamp hRN]; rfl
  refine va_newaK hx hb (hts _ hw) rfl hd rfl hn0 hnN (by have := Nat.mul_le_mul (Nat.le_of_lt hN) hcb; omega) (by omega) (by omega) (pW_nx hW) fun H2 cA e1 z1 o1 hAr hNm => ?_
  have hcA : cA = cy kd := Option.some.inj (hNm.symm.trans (hra _ (hK.2 ti _ hti).2))
  subst hcA
  have hz : H2.size = H.size + 1 := by rw [z1, pW_nx hW]
  have ho : ∀ q, q < H.size → H2[q]? = H[q]? := fun q h => o1 q (by rw [← pW_nx hW]; exact h)
  refine kk H2 locs l0 (pW_push hW hz ho ⟨fun h => absurd h (by show ¬ (up1 g.2.1 g.1 (kd, N) g.1).1 < 7; rw [up1_eq]; show ¬ kd < 7; omega), fun _ => ⟨by show (up1 g.2.1 g.1 (kd, N) g.1).1 ≤ 10; rw [up1_eq]; show kd ≤ 10; omega, ?_⟩⟩) (va_S_push hS hz ho) hl
  show H2[tA B b g.1]? = some (arrV (cy (up1 g.2.1 g.1 (kd, N) g.1).1) (up1 g.2.1 g.1 (kd, N) g.1).2 (fun j => tV B b (if (up1 g.2.1 g.1 (kd, N) g.1).1 < 9 then vI (up1 σ g.1 (fun _ => 0) g.1 j) else vR (up1 g.2.2 g.1 (fun _ => none) g.1 j))))
  rw [up1_eq, up1_eq, up1_eq, e1, hdv]
  congr 2
  funext j
  rw [if_pos (by show kd < 9; omega)]
  rfl
theorem pWi : Cond.arrayClass (newarray.typeOf .int) ∈ lw_ok := by decide +kernel
theorem pWz : Cond.arrayClass (newarray.typeOf .boolean) ∈ lw_ok := by decide +kernel
theorem so_newi (X : pX p s m args c D cy y cc nL) (hR : bc ≤ R.cells ∧ bs ≤ R.slots) : ru_newi cc bc bs (pS p l e R s m args below meth c D cy B b nL Qf) := by
  intro pc q ls st g σ k n N hd hq hN h1 h2 kk
  subst hq
  exact so_newA X hR .int 7 0 (Or.inl rfl) pWi rfl rfl (by decide) (fun _ h => h) hd hN h1 h2 kk
theorem so_newz (X : pX p s m args c D cy y cc nL) (hR : bc ≤ R.cells ∧ bs ≤ R.slots) : ru_newz cc bc bs (pS p l e R s m args below meth c D cy B b nL Qf) := by
  intro pc q ls st g σ k n N hd hq hN h1 h2 kk
  subst hq
  exact so_newA X hR .boolean 8 1 (Or.inr rfl) pWz rfl rfl (by decide) (fun _ h => h) hd hN h1 h2 kk
theorem so_newq (X : pX p s m args c D cy y cc nL) (hR : bc ≤ R.cells ∧ bs ≤ R.slots) : ru_newq y cc bc bs (pS p l e R s m args below meth c D cy B b nL Qf) := by
  obtain ⟨hx, hb, hml, hown, hts, hK, hNs⟩ := X
  intro pc q ls st g σ k n i N kd C hd hq hN hkd hcl h1 h2 kk H locs l0 hW hS hl
  subst hq
  have hRN : iR (N : Int) := ⟨by omega, by omega⟩
  have hn0 : ¬ iv (N : Int) < 0 := fun q => by rw [← iv_0, iv_lt hRN ⟨by decide, by decide⟩] at q; omega
  have hnN : (iv (N : Int)).toNatClampNeg = N := by rw [iv_clamp hRN]; rfl
  have hov : va_AO C s := by rcases hkd with ⟨-, rfl⟩ | ⟨-, rfl⟩; exact hNs.2.1; exact hNs.2.2
  have hcy : s.vm.findClass ("[" ++ (FieldType.object C).toString) = some (cy kd) := by
    rcases hkd with ⟨rfl, rfl⟩ | ⟨rfl, rfl⟩
    · obtain ⟨_, _, -, -, -, h⟩ := (hK.2 2 _ rfl).2; exact h
    · obtain ⟨_, _, -, -, -, h⟩ := (hK.2 3 _ rfl).2; exact h
  have hkd2 : kd = 9 ∨ kd = 10 := by omega
  refine W.anew hx hb hown (hts _ hcl) (va_AO.use hov) rfl hd rfl hn0 (by rw [hnN]; omega) (by omega) (by rw [hnN]; omega) fun cA kA comp f1 f2 f3 f4 => ?_
  rw [hnN]
  have hcA : cA = cy kd := Option.some.inj (f1.symm.trans hcy)
  subst hcA
  generalize hH2 : H.push ({ cls := cy kd, slots := Array.replicate N .null, vm := .none } : Cell) = H2
  have hz : H2.size = H.size + 1 := by rw [← hH2, Array.size_push]
  have e1 : H2[H.size]? = some (arrV (cy kd) N (fun _ => .null)) := by rw [← hH2, Array.getElem?_push_size, ← arrV_new]
  have ho : ∀ q, q < H.size → H2[q]? = H[q]? := fun q h => by rw [← hH2, Array.getElem?_push, if_neg (Nat.ne_of_lt h)]
  rw [pW_nx hW] at e1 ⊢
  refine kk H2 locs l0 (pW_push hW hz ho ⟨fun h => absurd h (by show ¬ (up1 g.2.1 g.1 (kd, N) g.1).1 < 7; rw [up1_eq]; show ¬ kd < 7; omega), fun _ => ⟨by show (up1 g.2.1 g.1 (kd, N) g.1).1 ≤ 10; rw [up1_eq]; show kd ≤ 10; omega, ?_⟩⟩) (va_S_push hS hz ho) hl
  show H2[tA B b g.1]? = some (arrV (cy (up1 g.2.1 g.1 (kd, N) g.1).1) (up1 g.2.1 g.1 (kd, N) g.1).2 (fun j => tV B b (if (up1 g.2.1 g.1 (kd, N) g.1).1 < 9 then vI (up1 σ g.1 (fun _ => 0) g.1 j) else vR (up1 g.2.2 g.1 (fun _ => none) g.1 j))))
  rw [up1_eq, up1_eq, up1_eq, e1]
  congr 2
  funext j
  rw [if_neg (by show ¬ kd < 9; omega)]
  rfl
end S2
