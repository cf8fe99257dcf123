/-! The law, out of its walk in the land -/
def R_law : String := "PourPlanLaw"
def lw_P (b : Addr) (xs : List Int32) (args : Array Value) (s : State) : Prop := args = #[.ref b] ∧ s.IntsAt b xs ∧ xs.length ≤ 1536 ∧ (Jvm.Cond.and given_1 narrow_1).before args s = true
def lw_Q (_ : Array Value) (s : State) (o : Outcome) (t : State) : Prop := o = .returned (some (.int 1)) ∧ Framed s o t [] 600000 7302250
def lw_Z (below : List Frame) (a : Array Value) (s : State) : State → Prop := fun t => ∃ o, t.status = .running ∧ Ended t below o ∧ lw_Q a s o t
/-- the law's own end, with 1 on the stack, nothing written that was there before, its room as the claim has it -/
theorem lw_ret {p : Program} {l : Launch} {e : Env} {s : State} {m : MethodId} {below : List Frame} {meth : Method} {c : Code} {b : Nat} (hx : p.tables.exec = Jvm.exec) (hb : c.code = code) (hr : meth.sig.returnType = ret) (hlocks : meth.locks = false) {pc : Nat} {H : Heap} {ls : Array Slot} (hdg : decode code pc = .ok (.ireturn, 1)) : W p l e room_1 s m #[Value.ref b] below meth c H [] 600000 7302250 (lw_Z below #[Value.ref b] s) (F0 m pc ls [.int 1]) := by
  intro T hT X
  obtain ⟨fs, hret, hrun, hended, hW, hframe⟩ := X.leave (v := some (.int 1)) (hlocks := hlocks) (fun h => by rw [hr] at h; cases h)
  have hmeth' : T.vm.method? m = some meth := X.method'
  refine ⟨T.setFrames fs, ?_, .returned (some (.int 1)), hrun, hended, rfl, ⟨_, rfl⟩, hW, hframe⟩
  jvm_step X.here [X.here.top, hx, hb, hdg, hmeth', hr, ret, narrow_b1]
  (try refine ⟨rfl, ?_⟩); (try refine ⟨rfl, ?_⟩)
  first | (intro acts; rw [hret _ acts rfl rfl rfl]) | rw [hret _ _ rfl rfl rfl]
  exact Steps.refl _
/-- what holds at the law's entry: the machine, the code, the tables' words (any of lw_tbl by 'hts w (by decide +kernel)'), the script of L ints xs at the cell b, what the Statement gives of the start (any of its parts by flat_of_before) -/
def lw_At (p : Program) (s : State) (m : MethodId) (meth : Method) (c : Code) (b L : Nat) (xs : Nat → Int32) : Prop :=
  p.tables.exec = Jvm.exec ∧ c.code = code ∧ meth.sig.returnType = ret ∧ c.maxLocals = 4 ∧ s.vm.findClass R_law = some m.cls ∧ (∀ w ∈ lw_tbl, w.before #[Value.ref b] s = true) ∧ va_X b L xs s s.heap ∧ b < s.heap.size ∧ meth.locks = false ∧ (Jvm.Cond.and given_1 narrow_1).before #[Value.ref b] s = true
/-- the script's world: one cell -/
def gS (L : Nat) : pG := (1, fun _ => (11, L), fun _ _ => none)
def sS (xs : Nat → Int32) : pM := fun _ j => (xs j).toInt
/-- what is owed of the law, in the land -/
def pLaw : Prop := ∀ (L : Nat) (xs : Nat → Int32) (P : pP), L ≤ 1536 → Clo (pCall 60) yL_law cL_law ret 4 600000 7302250 (fun r _ _ => r = [vI 1]) P → P 0 [(0, vR (some 0))] [] (gS L) (sS xs) 0 0
theorem lw_ok_of {args : Array Value} {s : State} (h : ∀ w ∈ lw_tbl, w.before args s = true) : ∀ w ∈ lw_ok, w.before args s = true := fun w hw => h w (List.mem_filter.mp hw).1
theorem pIns0 : Cond.instantiable RX0 3 ∈ lw_tbl := by decide +kernel
theorem pIns1 : Cond.instantiable RX1 3 ∈ lw_tbl := by decide +kernel
theorem pIns2 : Cond.instantiable RX2 3 ∈ lw_tbl := by decide +kernel
theorem pIns3 : Cond.instantiable RX3 18 ∈ lw_tbl := by decide +kernel
theorem pIns4 : Cond.instantiable RX4 13 ∈ lw_tbl := by decide +kernel
theorem pIns5 : Cond.instantiable RX5 9 ∈ lw_tbl := by decide +kernel
theorem pIns6 : Cond.instantiable RX6 14 ∈ lw_tbl := by decide +kernel
theorem pWi2 : Cond.arrayClass .int ∈ lw_tbl := by decide +kernel
theorem pWz2 : Cond.arrayClass .boolean ∈ lw_tbl := by decide +kernel
theorem pWo9 : Cond.arrayOver (.object "PourPlan$Image") ∈ lw_tbl := by decide +kernel
theorem pWo10 : Cond.arrayOver (.object "PourPlan$Wall") ∈ lw_tbl := by decide +kernel
set_option maxHeartbeats 4000000 in
theorem whole_open (hlaw : pLaw) {p : Program} {e : Env} {s : State} {m : MethodId} {below : List Frame} {meth : Method} {c : Code} (l : Launch) (hflags : l.flags = flags0) {b L : Nat} {xs : Nat → Int32} (hL : L ≤ 1536) (C0 : lw_At p s m meth c b L xs) : W p l e room_1 s m #[Value.ref b] below meth c s.heap [] 0 0 (lw_Z below #[Value.ref b] s) (entryFrame m ([Value.ref b] : List Value).toArray 4) := by
  obtain ⟨hx, hb, hr, hml, hown, hts, hX, hbl, hlocks, hgv⟩ := id C0
  have hok := lw_ok_of hts
  obtain ⟨c0, i0, k0⟩ := u_known (C := RX0) (T := TX0) (N := 3) (n := 3) hok pIn0 (hts _ pIns0)
  obtain ⟨c1, i1, k1⟩ := u_known (C := RX1) (T := TX1) (N := 3) (n := 3) hok pIn1 (hts _ pIns1)
  obtain ⟨c2, i2, k2⟩ := u_known (C := RX2) (T := TX2) (N := 3) (n := 3) hok pIn2 (hts _ pIns2)
  obtain ⟨c3, i3, k3⟩ := u_known (C := RX3) (T := TX3) (N := 18) (n := 18) hok pIn3 (hts _ pIns3)
  obtain ⟨c4, i4, k4⟩ := u_known (C := RX4) (T := TX4) (N := 13) (n := 13) hok pIn4 (hts _ pIns4)
  obtain ⟨c5, i5, k5⟩ := u_known (C := RX5) (T := TX5) (N := 9) (n := 9) hok pIn5 (hts _ pIns5)
  obtain ⟨c6, i6, k6⟩ := u_known (C := RX6) (T := TX6) (N := 14) (n := 14) hok pIn6 (hts _ pIns6)
  obtain ⟨cA7, kA7, co7, a71, a72, a73⟩ := Cond.arrayClass_spec (hts _ pWi2)
  obtain ⟨cA8, kA8, co8, a81, a82, a83⟩ := Cond.arrayClass_spec (hts _ pWz2)
  obtain ⟨co9, cA9, kA9, a91, a92, a93, a94, a95⟩ := Cond.arrayOver_spec (hts _ pWo9)
  obtain ⟨co10, cA10, kA10, a01, a02, a03, a04, a05⟩ := Cond.arrayOver_spec (hts _ pWo10)
  obtain ⟨D, hD⟩ : ∃ D : va_G, ∀ (k : Nat) (q : vw_C), vwCl[k]? = some q → u_Kn s q.1 q.2.1 q.2.2 (D.1 k) (D.2 k) := by
    refine ⟨(fun k => if k = 0 then c0 else if k = 1 then c1 else if k = 2 then c2 else if k = 3 then c3 else if k = 4 then c4 else if k = 5 then c5 else c6, fun k => if k = 0 then i0 else if k = 1 then i1 else if k = 2 then i2 else if k = 3 then i3 else if k = 4 then i4 else if k = 5 then i5 else i6), ?_⟩
    intro k q hq
    match k, hq with
    | 0, hq => cases hq; exact k0
    | 1, hq => cases hq; exact k1
    | 2, hq => cases hq; exact k2
    | 3, hq => cases hq; exact k3
    | 4, hq => cases hq; exact k4
    | 5, hq => cases hq; exact k5
    | 6, hq => cases hq; exact k6
    | k + 7, hq => simp [vwCl] at hq
  have arr : ∀ {cA : ClassId} {kA : Class} {co : ClassId} {ty : FieldType}, s.vm.classes[cA]? = some kA → kA.kind = .array co ty → ArrOfT s cA ty := fun h1 h2 n z => ⟨fun k h => (by cases h), _, h1, _, h2⟩
  obtain ⟨cy, hcy⟩ : ∃ cy : Nat → ClassId, cy 7 = cA7 ∧ cy 8 = cA8 ∧ cy 9 = cA9 ∧ cy 10 = cA10 := ⟨fun k => if k = 7 then cA7 else if k = 8 then cA8 else if k = 9 then cA9 else cA10, rfl, rfl, rfl, rfl⟩
  obtain ⟨y7, y8, y9, y10⟩ := hcy
  have hK : va_K D vwCl (pTy cy) s := by
    refine ⟨hD, fun k q hq => ?_⟩
    match k, hq with
    | 0, hq => cases hq; rw [y7]; exact ⟨arr a72 a73, a71⟩
    | 1, hq => cases hq; rw [y8]; exact ⟨arr a82 a83, a81⟩
    | 2, hq => cases hq; rw [y9]; exact ⟨arr a93 a94, kA9, co9, a93, a94, a91, a95⟩
    | 3, hq => cases hq; rw [y10]; exact ⟨arr a03 a04, kA10, co10, a03, a04, a01, a05⟩
    | k + 4, hq => simp at hq
  have hN : pNst s := ⟨fun a i x h hm => va_Nw.of rfl (hts _ hm), va_AO.of (hts _ pWo9), va_AO.of (hts _ pWo10)⟩
  have X : pX p s m #[Value.ref b] c D cy yL_law cL_law 4 := ⟨hx, hb, hml, hown, hok, hK, hN⟩
  have hB : s.heap.size + 1 = s.heap.size + (gS L).1 := rfl
  have hW : pW D cy s.heap.size b s (gS L) (sS xs) s.heap := by
    refine ⟨rfl, hbl, rfl, Nat.le_refl 1, ?_, fun o h1 h2 => absurd h2 (by show ¬ o < 1; omega)⟩
    have e : (fun j => iv (sS xs 0 j)) = xs := by funext j; exact iv_self _
    rw [e]
    exact hX
  have hl := lv_entry ([.ref b]) (n := 4) (Nat.le_of_ble_eq_true rfl)
  rw [lg_entry_eq]
  have ret0 : ∀ (k n : Nat) (H : Heap) (locs : List Loc) (l0 : Array Slot) (pc : Nat), k ≤ 600000 → n ≤ 7302250 → va_S (fun q => s.heap.size ≤ q) s.heap H locs → decode cL_law pc = .ok (.ireturn, 1) → W p l e room_1 s m #[Value.ref b] below meth c H locs k n (lw_Z below #[Value.ref b] s) (F0 m pc l0 [.int 1]) := by
    intro k n H locs l0 pc h1 h2 hS hd
    refine va_forget hS.2.2 ?_
    refine W.widen h1 h2 ?_
    exact lw_ret hx hb hr hlocks hd
  refine hlaw L xs _ hL (so_all (d := 60) X (fun h => absurd h (by decide)) ⟨Nat.le_refl _, Nat.le_refl _, Nat.le_of_ble_eq_true rfl, Nat.le_of_ble_eq_true rfl⟩ (pSound l D cy s.heap.size b 60) pIni_ok ?_ ?_ ?_ ?_) s.heap [] _ hW va_S.rf hl
  · intro pc q ls st g σ k n z hd h1 h2 hrt hq H locs l0 hW hS hl
    cases hrt
  · intro pc q ls st g σ k n z hd h1 h2 hrt hz hq H locs l0 hW hS hl
    have hz1 : z = 1 := by
      have h3 : ([vI z] : List pV) = [vI 1] := hq
      simpa using h3
    subst hz1
    exact ret0 k n H locs l0 pc h1 h2 hS hd
  · intro pc q ls st g σ k n r C hd h1 h2 hrt hq H locs l0 hW hS hl
    cases hrt
  · intro pc q ls st g σ k n hd h1 h2 hrt hq H locs l0 hW hS hl
    cases hrt
