/-! The rules are sound, three: calls, returns, and all of it -/
theorem lw_good {w : Cond} (h : w ∈ lw_ok) : goodWord w = true := (List.mem_filter.mp h).2
/-- the words of a method: its code, and all of the tables' -/
abbrev pWs (z : MethodName) (cc : ByteArray) (nL : Nat) (rt : Option FieldType) : List Cond := Cond.code z cc nL rt :: lw_ok
theorem pGood {x z : MethodName} {c1 c2 : ByteArray} {n1 n2 : Nat} {r1 r2 : Option FieldType} (h : Cond.code z c2 n2 r2 ∈ lw_ok) : GoodIn (pWs x c1 n1 r1) (pWs z c2 n2 r2) := by
  intro w hw
  have h2 : w ∈ lw_ok := by
    rcases List.mem_cons.mp hw with rfl | h3
    · exact h
    · exact h3
  exact ⟨List.mem_cons_of_mem _ h2, good_of_word (lw_good h2)⟩
theorem pGood2 {z : MethodName} {c2 : ByteArray} {n2 : Nat} {r2 : Option FieldType} (h : Cond.code z c2 n2 r2 ∈ lw_ok) : GoodIn lw_ok (pWs z c2 n2 r2) := by
  intro w hw
  have h2 : w ∈ lw_ok := by
    rcases List.mem_cons.mp hw with rfl | h3
    · exact h
    · exact h3
  exact ⟨h2, good_of_word (lw_good h2)⟩
/-- a call's start and end -/
def pPst (D : va_G) (cy : Nat → ClassId) (B b : Nat) (g : pG) (σ : pM) (U : State) : Prop := pW D cy B b U g σ U.heap ∧ va_K D vwCl (pTy cy) U
def pPre (D : va_G) (cy : Nat → ClassId) (B b : Nat) (g : pG) (σ : pM) (U : State) : Prop := pW D cy B b U g σ U.heap ∧ va_K D vwCl (pTy cy) U ∧ pNst U
def pOut (B b : Nat) (r : List pV) : Outcome := .returned (r.map (tV B b)).head?
def pQc (D : va_G) (cy : Nat → ClassId) (B b : Nat) (Q : pQ) : Array Value → State → Outcome → State → Prop := fun _ st oc t =>
  ∃ (r : List pV) (g : pG) (σ : pM), r.length ≤ 1 ∧ oc = pOut B b r ∧ Q r g σ ∧ pPst D cy B b g σ t ∧ va_F (fun q => B ≤ q) st t
def pRm (d : Nat) (z : MethodName) : Room := { frames := d, cells := (pBd z).1, slots := (pBd z).2, locals := 64 * d }
def pMet (l : Launch) (D : va_G) (cy : Nat → ClassId) (B b d : Nat) (z : MethodName) (as : List pV) (g : pG) (σ : pM) (Q : pQ) : Prop :=
  ∃ (cc : ByteArray) (nL : Nat) (rt : Option FieldType), Cond.code z cc nL rt ∈ lw_ok ∧ nL ≤ 40 ∧ Met l z (pWs z cc nL rt) (pRm d z) (va_Pc (as.map (tV B b)) (pPre D cy B b g σ)) (pQc D cy B b Q) (pBd z).1 (pBd z).2 (fun q => B ≤ q)
theorem pW_moved {D : va_G} {cy : Nat → ClassId} {B b : Nat} {u U : State} {g : pG} {σ : pM} {H : Heap} (hvm : u.vm.Alike U.vm) (h : pW D cy B b u g σ H) : pW D cy B b U g σ H :=
  ⟨h.1, h.2.1, h.2.2.1, h.2.2.2.1, h.2.2.2.2.1.moved hvm, h.2.2.2.2.2⟩
section S3
variable {p : Program} {l : Launch} {e : Env} {R : Room} {s : State} {m : MethodId} {args : Array Value} {below : List Frame} {meth : Method} {c : Code} {D : va_G} {cy : Nat → ClassId} {B b : Nat} {Qf : State → Prop} {y : MethodName} {cc : ByteArray} {nL bc bs d : Nat}
theorem pCat (B b : Nat) : ∀ st : List pV, ((st.map (tV B b)).map fun v => v.category).sum = (st.map pC).sum
  | [] => rfl
  | v :: t => by
    show (tV B b v).category + ((t.map (tV B b)).map fun v => v.category).sum = pC v + (t.map pC).sum
    rw [tV_cat, pCat B b t]
/-- behind a call -/
theorem pBack {H : Heap} {locs : List Loc} {l0 : Array Slot} {k n mc ms pc : Nat} {st0 : List Value} {ls : pL} {st : List pV} {a : Array Value} {Q : pQ} (hr : va_Run p l e R s m args below meth c H locs k n mc ms (F0 m pc l0 st0) (st.map (tV B b)) (pQc D cy B b Q a) (fun q => B ≤ q)) (hS : va_S (fun q => B ≤ q) s.heap H locs) (hl : lv_has l0 nL (ls.map (fun q => (q.1, tV B b q.2))))
    (kk : ∀ (r : List pV) (g : pG) (σ : pM), Q r g σ → pS p l e R s m args below meth c D cy B b nL Qf (pc + 3) ls (r ++ st) g σ (k + mc) (n + ms)) : W p l e R s m args below meth c H locs k n Qf (F0 m pc l0 st0) := by
  intro T hT X
  obtain ⟨v, st₀, t, T2, L, h0, X2, hL, e1, e2, ⟨r, g, σ, hr1, hv, hq, hpre, hz, hk⟩, stp⟩ := hr T hT X
  have hvm : s.vm.Alike t.vm := by rw [← e2]; exact X2.warmed.alike
  have hst : v.toList ++ st.map (tV B b) = (r ++ st).map (tV B b) := by
    have hv2 : v = (r.map (tV B b)).head? := Outcome.returned.inj hv
    rw [hv2]
    match r, hr1 with
    | [], _ => rfl
    | [x], _ => rfl
    | _ :: _ :: _, h => simp at h
  rw [hst] at stp
  rw [h0] at hz hk
  obtain ⟨t2, a1, b1⟩ := kk r g σ hq T2.heap (locs ++ L) l0 (by rw [e1]; exact pW_moved hvm.symm hpre.1) ⟨Nat.le_trans hS.1 (by rw [e1]; exact hz), fun q h1 h2 => by rw [e1, hk q (Nat.lt_of_lt_of_le h1 hS.1) h2]; exact hS.2.1 q h1 h2, fun q hq => by
      rcases List.mem_append.mp hq with h | h
      · exact hS.2.2 q h
      · exact hL q h⟩ hl T2 rfl X2
  exact ⟨t2, stp t2 a1, b1⟩
theorem pBlind {as : List Value} {g : pG} {σ : pM} : FrameBlind (va_Pc as (pPre D cy B b g σ)) := fun a U g1 mk h => ⟨h.1, pW_moved (Vm.Alike.refl U.vm) h.2.1, va_K.moved (u := U) (U := U.calling g1 mk a) (Vm.Alike.refl U.vm) h.2.2.1, fun a1 i x h1 h2 => va_Nw.same rfl rfl (h.2.2.2.1 a1 i x h1 h2), va_AO.moved (u := U) (Vm.Alike.refl U.vm) h.2.2.2.2.1, va_AO.moved (u := U) (Vm.Alike.refl U.vm) h.2.2.2.2.2⟩
theorem pStart {as : List Value} {g : pG} {σ : pM} {H : Heap} (hW : pW D cy B b s g σ H) (hK : va_K D vwCl (pTy cy) s) (hN : pNst s) : ∀ U : State, U.heap = H → s.WarmedH U.vm → va_Pc as (pPre D cy B b g σ) as.toArray U :=
  fun U hU hw => ⟨rfl, by rw [hU]; exact pW_moved hw.alike hW, va_K.moved hw.alike hK, fun a1 i x h1 h2 => va_Nw.warmM hw (hN.1 a1 i x h1 h2), va_AO.moved hw.alike hN.2.1, va_AO.moved hw.alike hN.2.2⟩
theorem so_callv {C : pH} (X : pX p s m args c D cy y cc nL) (hR : bc ≤ R.cells ∧ bs ≤ R.slots ∧ d + 1 ≤ R.frames ∧ 64 * (d + 1) ≤ R.locals) (hC : ∀ z as g σ Q, C z as g σ Q → pMet l D cy B b d z as g σ Q) : ru_callv C y cc bc bs (pS p l e R s m args below meth c D cy B b nL Qf) := by
  obtain ⟨hx, hb, hml, hown, hts, hK, hN⟩ := X
  intro pc q ls st g σ k n i o ci z as m1 st0 hd hq ho hk h7 hcl w1 w2 w3 w4 hpar hlen hst0 b1 b2 b3 hcall H locs l0 hW hS hl
  subst hq
  obtain ⟨cc2, nL2, rt2, hcode, hnL, hM⟩ := hC _ _ _ _ _ hcall
  have h0 := pW_pos hW (o := o) (by omega)
  obtain ⟨cell, q1, q2, q3, -⟩ := (hW.2.2.2.2.2 o h0 ho).1 (by rw [hk]; exact h7)
  obtain ⟨r, hr⟩ : ∃ r, vwCl[ci]? = some r := by cases h : vwCl[ci]? with
    | none => rw [h] at hcl; cases hcl
    | some r => exact ⟨r, rfl⟩
  have hrc : r.1 = z.cls := by rw [hr] at hcl; simpa using hcl
  have hrecv : ∃ cellB : Cell, H[tA B b o]? = some cellB ∧ cellB.vm.isStatics = false ∧ s.vm.findClass z.cls = some cellB.cls := ⟨cell, q1, by rw [q3]; rfl, by rw [q2, hk, ← hrc]; exact (hK.1 ci r hr).2.1⟩
  have cw := cwV (R := R) (s := s) (args := args) (own := y.cls) (index := i) (C := z.cls) (y := z) (ws := pWs z cc2 nL2 rt2) (rm := pRm d z) (mc := (pBd z).1) (ms := (pBd z).2) m1 hts (fun w hw => by
    rcases List.mem_append.mp hw with h | h
    · have : w ∈ lw_ok := by
        rcases List.mem_cons.mp h with rfl | h
        · exact w1
        · rcases List.mem_cons.mp h with rfl | h
          · exact w2
          · rcases List.mem_cons.mp h with rfl | h
            · exact w3
            · rw [List.mem_singleton.mp h]; exact w4
      exact ⟨this, good_of_word (lw_good this)⟩
    · exact pGood2 hcode w h) rfl rfl rfl ⟨rfl, hpar.1, hpar.2.1, hpar.2.2⟩ ⟨by show d + 1 ≤ R.frames; omega, by show 8 + (nL2 + 11) + 64 * d ≤ R.locals; omega⟩
  refine pBack (mc := (pBd z).1) (ms := (pBd z).2) (va_runV (b := tA B b o) (As := as.map (tV B b)) (rest := st.map (tV B b)) ⟨hx, hb, hml, hown, hts⟩ hM cw ⟨pBlind, hrecv, pStart hW hK hN⟩ rfl (by rw [List.length_map]; exact hlen) hl.1 ?_ (lv_room (by rw [pCat]; exact b3)) hd ⟨by omega, by omega⟩) hS hl (fun r g2 σ2 h => h)
  show st0.map (tV B b) = _
  rw [hst0, List.map_append, List.map_reverse]
  rfl
theorem so_calls {C : pH} (X : pX p s m args c D cy y cc nL) (hR : bc ≤ R.cells ∧ bs ≤ R.slots ∧ d + 1 ≤ R.frames ∧ 64 * (d + 1) ≤ R.locals) (hC : ∀ z as g σ Q, C z as g σ Q → pMet l D cy B b d z as g σ Q) : ru_calls C y cc bc bs (pS p l e R s m args below meth c D cy B b nL Qf) := by
  obtain ⟨hx, hb, hml, hown, hts, hK, hN⟩ := X
  intro pc q ls st g σ k n i z as m1 st0 hd hq w1 w2 w3 hpar hlen hst0 b1 b2 b3 hcall H locs l0 hW hS hl
  subst hq
  obtain ⟨cc2, nL2, rt2, hcode, hnL, hM⟩ := hC _ _ _ _ _ hcall
  have cw := va_cwS (R := R) (s := s) (args := args) (own := y.cls) (index := i) (y := z) (ws := pWs z cc2 nL2 rt2) (rm := pRm d z) (mc := (pBd z).1) (ms := (pBd z).2) m1 hts (fun w hw => by
    rcases List.mem_append.mp hw with h | h
    · have : w ∈ lw_ok := by
        rcases List.mem_cons.mp h with rfl | h
        · exact w1
        · rcases List.mem_cons.mp h with rfl | h
          · exact w2
          · rw [List.mem_singleton.mp h]; exact w3
      exact ⟨this, good_of_word (lw_good this)⟩
    · exact pGood2 hcode w h) rfl rfl rfl hpar ⟨by show d + 1 ≤ R.frames; omega, by show 8 + (nL2 + 11) + 64 * d ≤ R.locals; omega⟩
  refine pBack (mc := (pBd z).1) (ms := (pBd z).2) (va_runS (As := as.map (tV B b)) (rest := st.map (tV B b)) ⟨hx, hb, hml, hown, hts⟩ hM cw ⟨pBlind, pStart hW hK hN⟩ rfl (by rw [List.length_map]; exact hlen) hl.1 ?_ (lv_room (by rw [pCat]; exact b3)) hd ⟨by omega, by omega⟩) hS hl (fun r g2 σ2 h => h)
  show st0.map (tV B b) = _
  rw [hst0, List.map_append, List.map_reverse]
theorem so_callsn {C : pH} (X : pX p s m args c D cy y cc nL) (hR : bc ≤ R.cells ∧ bs ≤ R.slots ∧ d + 1 ≤ R.frames ∧ 64 * (d + 1) ≤ R.locals) (hC : ∀ z as g σ Q, C z as g σ Q → pMet l D cy B b d z as g σ Q) : ru_callsn C y cc bc bs (pS p l e R s m args below meth c D cy B b nL Qf) := by
  obtain ⟨hx, hb, hml, hown, hts, hK, hN⟩ := X
  intro pc q ls st g σ k n i host z as m1 st0 hd hq w1 w2 w3 hpar hlen hst0 b1 b2 b3 hcall H locs l0 hW hS hl
  subst hq
  obtain ⟨cc2, nL2, rt2, hcode, hnL, hM⟩ := hC _ _ _ _ _ hcall
  have cw := va_cnB (R := R) (s := s) (args := args) (own := y.cls) (host := host) (index := i) (y := z) (ws := pWs z cc2 nL2 rt2) (rm := pRm d z) (mc := (pBd z).1) (ms := (pBd z).2) m1 hts (pGood2 hcode) rfl rfl rfl (hN.1 _ _ _ _ w1) (hts _ w3) hpar ⟨by show d + 1 ≤ R.frames; omega, by show 8 + (nL2 + 11) + 64 * d ≤ R.locals; omega⟩
  refine pBack (mc := (pBd z).1) (ms := (pBd z).2) (va_runSN (As := as.map (tV B b)) (rest := st.map (tV B b)) ⟨hx, hb, hml, hown, hts⟩ hM ⟨cw, hts _ w2, trivial⟩ ⟨pBlind, pStart hW hK hN⟩ rfl (by rw [List.length_map]; exact hlen) hl.1 ?_ (lv_room (by rw [pCat]; exact b3)) hd ⟨by omega, by omega⟩) hS hl (fun r g2 σ2 h => h)
  show st0.map (tV B b) = _
  rw [hst0, List.map_append, List.map_reverse]
theorem pPar0 {z : MethodName} {n : Nat} (h : pPar z n) : z.cls ≠ "java/lang/invoke/MethodHandle" ∧ z.cls ≠ "java/lang/invoke/VarHandle" ∧ (parseMethodDescriptor z.desc).map (fun d => d.parameters.length) = some n := h
theorem so_calli {C : pH} (X : pX p s m args c D cy y cc nL) (hR : bc ≤ R.cells ∧ bs ≤ R.slots ∧ d + 1 ≤ R.frames ∧ 64 * (d + 1) ≤ R.locals) (hC : ∀ z as g σ Q, C z as g σ Q → pMet l D cy B b d z as g σ Q) (hrt : ∀ z cc2 n2 r2, z.name = "<init>" → Cond.code z cc2 n2 r2 ∈ lw_ok → r2 = none) : ru_calli C y cc bc bs (pS p l e R s m args below meth c D cy B b nL Qf) := by
  obtain ⟨hx, hb, hml, hown, hts, hK, hN⟩ := X
  intro pc q ls st g σ k n i o z hd hq w1 w2 w3 hzn hpar b1 b2 b3 hcall H locs l0 hW hS hl
  subst hq
  obtain ⟨cc2, nL2, rt2, hcode, hnL, hM⟩ := hC _ _ _ _ _ hcall
  have hr0 := hrt _ _ _ _ hzn hcode
  subst hr0
  have cw := cwI (R := R) (s := s) (args := args) (own := y.cls) (index := i) (y := z) (ws := pWs z cc2 nL2 none) (rm := pRm d z) (mc := (pBd z).1) (ms := (pBd z).2) 0 hts (pGood2 hcode) rfl rfl rfl (hts _ w3) (hts _ w1) (hts _ w2) hzn hpar ⟨by show d + 1 ≤ R.frames; omega, by show 8 + (nL2 + 11) + 64 * d ≤ R.locals; omega⟩
  exact pBack (mc := (pBd z).1) (ms := (pBd z).2) (va_runI (b := tA B b o) (As := []) (rest := st.map (tV B b)) ⟨hx, hb, hml, hown, hts⟩ hM cw ⟨pBlind, pStart hW hK hN⟩ rfl rfl hl.1 rfl (lv_room (by rw [pCat]; exact b3)) hd ⟨by omega, by omega⟩) hS hl (fun r g2 σ2 h => h)
theorem so_callin {C : pH} (X : pX p s m args c D cy y cc nL) (hR : bc ≤ R.cells ∧ bs ≤ R.slots ∧ d + 1 ≤ R.frames ∧ 64 * (d + 1) ≤ R.locals) (hC : ∀ z as g σ Q, C z as g σ Q → pMet l D cy B b d z as g σ Q) (hrt : ∀ z cc2 n2 r2, z.name = "<init>" → Cond.code z cc2 n2 r2 ∈ lw_ok → r2 = none) : ru_callin C y cc bc bs (pS p l e R s m args below meth c D cy B b nL Qf) := by
  obtain ⟨hx, hb, hml, hown, hts, hK, hN⟩ := X
  intro pc q ls st g σ k n i o host z hd hq w1 w2 w3 hzn hpar b1 b2 b3 hcall H locs l0 hW hS hl
  subst hq
  obtain ⟨cc2, nL2, rt2, hcode, hnL, hM⟩ := hC _ _ _ _ _ hcall
  have hr0 := hrt _ _ _ _ hzn hcode
  subst hr0
  have cw := va_cnB (R := R) (s := s) (args := args) (own := y.cls) (host := host) (index := i) (y := z) (ws := pWs z cc2 nL2 none) (rm := pRm d z) (mc := (pBd z).1) (ms := (pBd z).2) 0 hts (pGood2 hcode) rfl rfl rfl (hN.1 _ _ _ _ w1) (hts _ w3) hpar ⟨by show d + 1 ≤ R.frames; omega, by show 8 + (nL2 + 11) + 64 * d ≤ R.locals; omega⟩
  exact pBack (mc := (pBd z).1) (ms := (pBd z).2) (va_runIN (b := tA B b o) (As := []) (rest := st.map (tV B b)) ⟨hx, hb, hml, hown, hts⟩ hM ⟨cw, hzn, hts _ w2⟩ ⟨pBlind, pStart hW hK hN⟩ rfl rfl hl.1 rfl (lv_room (by rw [pCat]; exact b3)) hd ⟨by omega, by omega⟩) hS hl (fun r g2 σ2 h => h)
theorem pObj1 : Cond.instanceMethod objectInit ∈ lw_ok := by decide +kernel
theorem pObj2 : Cond.code objectInit ⟨#[0xb1]⟩ 1 none ∈ lw_ok := by decide +kernel
theorem so_oini (X : pX p s m args c D cy y cc nL) (hR : 1 ≤ R.frames ∧ 20 ≤ R.locals) : ru_oini y cc (pS p l e R s m args below meth c D cy B b nL Qf) := by
  obtain ⟨hx, hb, hml, hown, hts, hK, hN⟩ := X
  intro pc q ls st g σ k n i o hd hq w1 b3 kk H locs l0 hW hS hl
  subst hq
  exact W.objInit hx hb hown (hts _ w1) (hts _ pObj1) (hts _ pObj2) rfl (by rw [hml]; exact hl.1) rfl hd hR.1 (by show 2 * 0 + ((st.map (tV B b)).map fun v => v.category).sum + 12 ≤ _; rw [pCat]; omega) (kk H locs l0 hW hS hl)
/-- the returns of a method that has a contract -/
theorem so_iret {rt : Option FieldType} {Q : pQ} (X : pX p s m args c D cy y cc nL) (hr : meth.sig.returnType = rt) (hlocks : meth.locks = false) : ru_iret cc rt bc bs Q (pS p l e R s m args below meth c D cy B b nL (MQ below (pQc D cy B b Q) args s bc bs (fun q => B ≤ q))) := by
  obtain ⟨hx, hb, hml, hown, hts, hK, hN⟩ := X
  intro pc q ls st g σ k n z hd h1 h2 hrt hq H locs l0 hW hS hl
  refine W.widen (k := bc) (n := bs) h1 h2 ?_
  exact W.iret hx hb (hr.trans hrt) (fun t ht hw => ⟨[vI z], g, σ, Nat.le_refl 1, rfl, hq, ⟨by rw [ht]; exact pW_moved hw.alike hW, va_K.moved hw.alike hK⟩, hS.F ht⟩) hS.2.2 hd hlocks
theorem so_zret {rt : Option FieldType} {Q : pQ} (X : pX p s m args c D cy y cc nL) (hr : meth.sig.returnType = rt) (hlocks : meth.locks = false) : ru_zret cc rt bc bs Q (pS p l e R s m args below meth c D cy B b nL (MQ below (pQc D cy B b Q) args s bc bs (fun q => B ≤ q))) := by
  obtain ⟨hx, hb, hml, hown, hts, hK, hN⟩ := X
  intro pc q ls st g σ k n z hd h1 h2 hrt hz hq H locs l0 hW hS hl
  refine W.widen (k := bc) (n := bs) h1 h2 ?_
  exact W.zret hx hb (hr.trans hrt) (by rcases hz with rfl | rfl <;> rfl) (fun t ht hw => ⟨[vI z], g, σ, Nat.le_refl 1, rfl, hq, ⟨by rw [ht]; exact pW_moved hw.alike hW, va_K.moved hw.alike hK⟩, hS.F ht⟩) hS.2.2 hd hlocks
theorem so_aret {rt : Option FieldType} {Q : pQ} (X : pX p s m args c D cy y cc nL) (hr : meth.sig.returnType = rt) (hlocks : meth.locks = false) : ru_aret cc rt bc bs Q (pS p l e R s m args below meth c D cy B b nL (MQ below (pQc D cy B b Q) args s bc bs (fun q => B ≤ q))) := by
  obtain ⟨hx, hb, hml, hown, hts, hK, hN⟩ := X
  intro pc q ls st g σ k n r C hd h1 h2 hrt hq H locs l0 hW hS hl
  refine W.widen (k := bc) (n := bs) h1 h2 ?_
  exact W.aret hx hb (hr.trans hrt) (Or.inl ⟨_, rfl⟩) (by cases r; exact Or.inl rfl; exact Or.inr ⟨_, rfl⟩) (fun t ht hw => ⟨[vR r], g, σ, Nat.le_refl 1, rfl, hq, ⟨by rw [ht]; exact pW_moved hw.alike hW, va_K.moved hw.alike hK⟩, hS.F ht⟩) hS.2.2 hd hlocks
theorem so_vret {rt : Option FieldType} {Q : pQ} (X : pX p s m args c D cy y cc nL) (hr : meth.sig.returnType = rt) (hlocks : meth.locks = false) : ru_vret cc rt bc bs Q (pS p l e R s m args below meth c D cy B b nL (MQ below (pQc D cy B b Q) args s bc bs (fun q => B ≤ q))) := by
  obtain ⟨hx, hb, hml, hown, hts, hK, hN⟩ := X
  intro pc q ls st g σ k n hd h1 h2 hrt hq H locs l0 hW hS hl
  refine W.widen (k := bc) (n := bs) h1 h2 ?_
  exact W.vret hx hb (hr.trans hrt) (fun t ht hw => ⟨[], g, σ, Nat.zero_le 1, rfl, hq, ⟨by rw [ht]; exact pW_moved hw.alike hW, va_K.moved hw.alike hK⟩, hS.F ht⟩) hS.2.2 hd hlocks
/-- all rules at once, the returns given -/
theorem so_all {C : pH} {rt : Option FieldType} {Q : pQ} (X : pX p s m args c D cy y cc nL) (hin2 : y.name = "<init>" → meth.name = y.name) (hR : bc ≤ R.cells ∧ bs ≤ R.slots ∧ d + 1 ≤ R.frames ∧ 64 * (d + 1) ≤ R.locals) (hC : ∀ z as g σ Q, C z as g σ Q → pMet l D cy B b d z as g σ Q) (hrt : ∀ z cc2 n2 r2, z.name = "<init>" → Cond.code z cc2 n2 r2 ∈ lw_ok → r2 = none)
    (r1 : ru_iret cc rt bc bs Q (pS p l e R s m args below meth c D cy B b nL Qf)) (r2 : ru_zret cc rt bc bs Q (pS p l e R s m args below meth c D cy B b nL Qf)) (r3 : ru_aret cc rt bc bs Q (pS p l e R s m args below meth c D cy B b nL Qf)) (r4 : ru_vret cc rt bc bs Q (pS p l e R s m args below meth c D cy B b nL Qf)) : Clo C y cc rt nL bc bs Q (pS p l e R s m args below meth c D cy B b nL Qf) :=
  ⟨so_iconst X, so_bipush X, so_sipush X, so_lconst X, so_ldc X, so_ldcw X, so_ldc2 X, so_null X, so_iloadn X, so_iload X, so_aloadn X, so_lloadn X, so_lload X, so_istoren X, so_istore X, so_astoren X, so_iinc X, so_dup X, so_dup2 X, so_iadd X, so_isub X, so_imul X, so_ladd X, so_lmul X, so_idiv X, so_irem X, so_lrem X, so_ishl X, so_ishr X, so_iushr X, so_ior X, so_iand X, so_iand31 X, so_land X, so_i2l X, so_l2i X, so_lcmp X, so_goto X, so_icmp X, so_ifc X, so_ifnn X, so_tsw X, so_lsw X, so_getf X, so_putf X, so_putr X hin2, so_iald X, so_iast X, so_zald X, so_zast X, so_aald X, so_aast X, so_alen X, so_new X ⟨hR.1, hR.2.1⟩, so_newi X ⟨hR.1, hR.2.1⟩, so_newz X ⟨hR.1, hR.2.1⟩, so_newq X ⟨hR.1, hR.2.1⟩, so_oini X ⟨by omega, by omega⟩, so_callv X hR hC, so_calls X hR hC, so_callsn X hR hC, so_calli X hR hC hrt, so_callin X hR hC hrt, r1, r2, r3, r4, so_sub⟩
end S3
theorem pAg_map (B b : Nat) : ∀ (as : List pV) (i : Nat), lv_args i (as.map (tV B b)) = (pAg i as).map (fun q => (q.1, tV B b q.2))
  | [], _ => rfl
  | v :: t, i => by
    show (i, tV B b v) :: lv_args (if (tV B b v).category = 2 then i + 2 else i + 1) (t.map (tV B b)) = (i, tV B b v) :: (pAg (if pC v = 2 then i + 2 else i + 1) t).map (fun q => (q.1, tV B b q.2))
    rw [tV_cat, pAg_map B b t]
theorem pSl_len (B b : Nat) : ∀ as : List pV, (lg_sl (as.map (tV B b))).length = (as.map pC).sum
  | [] => rfl
  | v :: t => by
    have h := pSl_len B b t
    have e : lg_sl ((v :: t).map (tV B b)) = (if (tV B b v).category = 2 then [.val (tV B b v), .second] else [.val (tV B b v)]) ++ lg_sl (t.map (tV B b)) := by simp [lg_sl]
    rw [e, List.length_append, h, tV_cat]
    show _ = pC v + _
    rcases v with z | z | r <;> rfl
/-- no constructor answers -/
def pIni (w : Cond) : Bool := match w with
  | .code z _ _ rt => !(z.name == "<init>") || rt.isNone
  | _ => true
theorem lw_ini : lw_ok.all pIni = true := by decide +kernel
theorem pIni_ok : ∀ z cc2 n2 r2, z.name = "<init>" → Cond.code z cc2 n2 r2 ∈ lw_ok → r2 = none := by
  intro z cc2 n2 r2 h1 h2
  have h := List.all_eq_true.mp lw_ini _ h2
  simpa [pIni, h1] using h
/-- THE LAND IS SOUND: what a call of the land promises, the machine keeps -/
theorem pSound (l : Launch) (D : va_G) (cy : Nat → ClassId) (B b : Nat) : ∀ (d : Nat) (z : MethodName) (as : List pV) (g : pG) (σ : pM) (Q : pQ), pCall d z as g σ Q → pMet l D cy B b d z as g σ Q
  | 0, _, _, _, _, _, h => h.elim
  | d + 1, z, as, g, σ, Q, h => by
    obtain ⟨cc, nL, rt, hcode, hpl, hnL, hsum, hP⟩ := h
    refine ⟨cc, nL, rt, hcode, hnL, ?_⟩
    refine va_MetF (cc := cc) (maxL := nL) (ret := rt) hpl rfl ?_
    intro p e s m args below meth c s₁ Bd hml hv
    obtain ⟨rfl, hW, hK, hN⟩ := hv
    have hts0 := atoms_spec (ws := pWs z cc nL rt) Bd.pre
    have hts : ∀ w ∈ lw_ok, w.before ((as.map (tV B b)).toArray) s = true := fun w hw => hts0 w (List.mem_cons_of_mem _ hw)
    have hown : s.vm.findClass z.cls = some m.cls := findClass_of_methodNamed Bd.named
    have hlocks := Bd.notSynchronized
    have hname : meth.name = z.name := (name_of_methodNamed Bd.named Bd.method).1
    have X : pX p s m ((as.map (tV B b)).toArray) c D cy z cc nL := ⟨Bd.exec, Bd.bytes, hml, hown, hts, hK, hN⟩
    have hl := lv_entry (as.map (tV B b)) (n := nL) (by rw [pSl_len]; exact hsum)
    rw [pAg_map] at hl
    rw [lg_entry_eq]
    exact hP _ (so_all X (fun _ => hname) (d := d) ⟨Nat.le_refl _, Nat.le_refl _, Nat.le_refl _, Nat.le_refl _⟩ (pSound l D cy B b d) pIni_ok (so_iret X Bd.returns hlocks) (so_zret X Bd.returns hlocks) (so_aret X Bd.returns hlocks) (so_vret X Bd.returns hlocks)) s.heap [] _ hW va_S.rf hl
