/-! The rules are sound, one: what touches no cell -/
def pAt (D : va_G) (cy : Nat → ClassId) (B b : Nat) (g : pG) (σ : pM) (o : Nat) (H : Heap) : Prop :=
  ((g.2.1 o).1 < 7 → t_OB (tA B b o) (D.1 (g.2.1 o).1) (pN (g.2.1 o).1) (D.2 (g.2.1 o).1) H (fun j => tV B b (pFV g σ o (g.2.1 o).1 j))) ∧
  (¬ (g.2.1 o).1 < 7 → (g.2.1 o).1 ≤ 10 ∧ H[tA B b o]? = some (arrV (cy (g.2.1 o).1) (g.2.1 o).2 (fun j => tV B b (if (g.2.1 o).1 < 9 then vI (σ o j) else vR (g.2.2 o j)))))
/-- the heap is the world: the script at b, the made cells from B on, no other behind them -/
def pW (D : va_G) (cy : Nat → ClassId) (B b : Nat) (U : State) (g : pG) (σ : pM) (H : Heap) : Prop :=
  H.size + 1 = B + g.1 ∧ b < B ∧ (g.2.1 0).1 = 11 ∧ 1 ≤ g.1 ∧ va_X b (g.2.1 0).2 (fun j => iv (σ 0 j)) U H ∧ ∀ o, 0 < o → o < g.1 → pAt D cy B b g σ o H
abbrev pTy (cy : Nat → ClassId) : List (ClassId × FieldType) := [(cy 7, .int), (cy 8, .boolean), (cy 9, .object "PourPlan$Image"), (cy 10, .object "PourPlan$Wall")]
/-- what must be told of the tables besides -/
def pNst (U : State) : Prop := (∀ (a : String) (i : Nat) (x : MethodName) (h : String), Cond.methodLinkNest a i x h ∈ lw_tbl → va_Nw (.methodLinkNest a i x h) U) ∧ va_AO "PourPlan$Image" U ∧ va_AO "PourPlan$Wall" U
def pX (p : Program) (s : State) (m : MethodId) (args : Array Value) (c : Code) (D : va_G) (cy : Nat → ClassId) (y : MethodName) (cc : ByteArray) (nL : Nat) : Prop :=
  p.tables.exec = Jvm.exec ∧ c.code = cc ∧ c.maxLocals = nL ∧ s.vm.findClass y.cls = some m.cls ∧ (∀ w ∈ lw_ok, w.before args s = true) ∧ va_K D vwCl (pTy cy) s ∧ pNst s
/-- the predicate of which the rules are proved: the machine comes to Qf from every heap that is that world -/
def pS (p : Program) (l : Launch) (e : Env) (R : Room) (s : State) (m : MethodId) (args : Array Value) (below : List Frame) (meth : Method) (c : Code) (D : va_G) (cy : Nat → ClassId) (B b nL : Nat) (Qf : State → Prop) : pP :=
  fun pc ls st g σ k n => ∀ (H : Heap) (locs : List Loc) (l0 : Array Slot), pW D cy B b s g σ H → va_S (fun q => B ≤ q) s.heap H locs → lv_has l0 nL (ls.map (fun q => (q.1, tV B b q.2))) → W p l e R s m args below meth c H locs k n Qf (F0 m pc l0 (st.map (tV B b)))
theorem tV_cat (B b : Nat) (v : pV) : (tV B b v).category = pC v := by
  rcases v with z | z | r
  · rfl
  · rfl
  · cases r <;> rfl
theorem pSt_mem {i : Nat} {v : pV} : ∀ {ls : pL} {q : Nat × pV}, q ∈ pSt i v ls → q = (i, v) ∨ (q ∈ ls ∧ q.1 ≠ i)
  | [], q, h => Or.inl (by simpa [pSt] using h)
  | r :: t, q, h => by
    unfold pSt at h
    split at h
    · rcases List.mem_cons.mp h with h | h
      · exact Or.inl h
      · rw [List.mem_filter] at h
        exact Or.inr ⟨List.mem_cons_of_mem _ h.1, by simpa using h.2⟩
    · rename_i h1
      split at h
      · rcases List.mem_cons.mp h with h | h
        · exact Or.inl h
        · rcases List.mem_cons.mp h with h | h
          · exact Or.inr ⟨by rw [h]; exact List.mem_cons_self, by rw [h]; exact h1⟩
          · rw [List.mem_filter] at h
            exact Or.inr ⟨List.mem_cons_of_mem _ h.1, by simpa using h.2⟩
      · rcases List.mem_cons.mp h with h | h
        · exact Or.inr ⟨by rw [h]; exact List.mem_cons_self, by rw [h]; exact h1⟩
        · rcases pSt_mem h with h | h
          · exact Or.inl h
          · exact Or.inr ⟨List.mem_cons_of_mem _ h.1, h.2⟩
/-- the kit's new list of locals holds ours -/
theorem pSt_has {B b nL i : Nat} {v : pV} {ls : pL} {l1 : Array Slot} (h2 : ls.all (fun q => !(q.1 + 1 == i && pC q.2 == 2)) = true) (h : lv_has l1 nL ((i, tV B b v) :: (ls.map (fun q => (q.1, tV B b q.2))).filter (fun q => !(q.1 == i) && !(q.1 + 1 == i && q.2.category == 2)))) : lv_has l1 nL ((pSt i v ls).map (fun q => (q.1, tV B b q.2))) := by
  refine ⟨h.1, h.2.1, fun q hq => ?_⟩
  obtain ⟨r, hr, rfl⟩ := List.mem_map.mp hq
  rcases pSt_mem hr with rfl | ⟨h3, h4⟩
  · exact h.2.2 _ List.mem_cons_self
  · refine h.2.2 _ (List.mem_cons_of_mem _ (List.mem_filter.mpr ⟨List.mem_map.mpr ⟨r, h3, rfl⟩, ?_⟩))
    have h5 := List.all_eq_true.mp h2 r h3
    simp only [tV_cat]
    simp only [Bool.and_eq_true]
    exact ⟨by simpa using h4, h5⟩
section SO
variable {p : Program} {l : Launch} {e : Env} {R : Room} {s : State} {m : MethodId} {args : Array Value} {below : List Frame} {meth : Method} {c : Code} {D : va_G} {cy : Nat → ClassId} {B b : Nat} {Qf : State → Prop} {y : MethodName} {cc : ByteArray} {nL : Nat}

theorem so_iconst (X : pX p s m args c D cy y cc nL) : ru_iconst cc (pS p l e R s m args below meth c D cy B b nL Qf) := by
  obtain ⟨hx, hb, hml, hown, hts, hK, hN⟩ := X
  intro pc q ls st g σ k n z hd hq kk H locs l0 hW hS hl
  subst hq
  exact lv_iconst hx hb hd rfl (kk H locs l0 hW hS hl)
theorem so_bipush (X : pX p s m args c D cy y cc nL) : ru_bipush cc (pS p l e R s m args below meth c D cy B b nL Qf) := by
  obtain ⟨hx, hb, hml, hown, hts, hK, hN⟩ := X
  intro pc q ls st g σ k n z hd hq h kk H locs l0 hW hS hl
  subst hq
  exact lv_bipush hx hb hd (iv_bi h) (kk H locs l0 hW hS hl)
theorem so_sipush (X : pX p s m args c D cy y cc nL) : ru_sipush cc (pS p l e R s m args below meth c D cy B b nL Qf) := by
  obtain ⟨hx, hb, hml, hown, hts, hK, hN⟩ := X
  intro pc q ls st g σ k n z hd hq h kk H locs l0 hW hS hl
  subst hq
  exact lv_sipush hx hb hd (iv_si h) (kk H locs l0 hW hS hl)
theorem so_lconst (X : pX p s m args c D cy y cc nL) : ru_lconst cc (pS p l e R s m args below meth c D cy B b nL Qf) := by
  obtain ⟨hx, hb, hml, hown, hts, hK, hN⟩ := X
  intro pc q ls st g σ k n z hd hq kk H locs l0 hW hS hl
  subst hq
  exact lv_lconst hx hb hd (jv_nat z).symm (kk H locs l0 hW hS hl)
theorem so_ldc (X : pX p s m args c D cy y cc nL) : ru_ldc y cc (pS p l e R s m args below meth c D cy B b nL Qf) := by
  obtain ⟨hx, hb, hml, hown, hts, hK, hN⟩ := X
  intro pc q ls st g σ k n i z hd hq h kk H locs l0 hW hS hl
  subst hq
  exact lv_ldc hx hb hown (hts _ h) hd (kk H locs l0 hW hS hl)
theorem so_ldcw (X : pX p s m args c D cy y cc nL) : ru_ldcw y cc (pS p l e R s m args below meth c D cy B b nL Qf) := by
  obtain ⟨hx, hb, hml, hown, hts, hK, hN⟩ := X
  intro pc q ls st g σ k n i z hd hq h kk H locs l0 hW hS hl
  subst hq
  exact lv_ldcw hx hb hown (hts _ h) hd (kk H locs l0 hW hS hl)
theorem so_ldc2 (X : pX p s m args c D cy y cc nL) : ru_ldc2 y cc (pS p l e R s m args below meth c D cy B b nL Qf) := by
  obtain ⟨hx, hb, hml, hown, hts, hK, hN⟩ := X
  intro pc q ls st g σ k n i z hd hq h kk H locs l0 hW hS hl
  subst hq
  exact lv_ldc2 hx hb hown (hts _ h) hd (kk H locs l0 hW hS hl)
theorem so_null (X : pX p s m args c D cy y cc nL) : ru_null cc (pS p l e R s m args below meth c D cy B b nL Qf) := by
  obtain ⟨hx, hb, hml, hown, hts, hK, hN⟩ := X
  intro pc q ls st g σ k n hd hq kk H locs l0 hW hS hl
  subst hq
  exact lv_null hx hb hd (kk H locs l0 hW hS hl)
theorem so_iloadn (X : pX p s m args c D cy y cc nL) : ru_iloadn cc (pS p l e R s m args below meth c D cy B b nL Qf) := by
  obtain ⟨hx, hb, hml, hown, hts, hK, hN⟩ := X
  intro pc q ls st g σ k n j i z hd hq hj hm kk H locs l0 hW hS hl
  subst hq
  exact lv_iload_n hx hb hd hj (hl.2.2 _ (List.mem_map.mpr ⟨_, hm, rfl⟩)) (kk H locs l0 hW hS hl)
theorem so_iload (X : pX p s m args c D cy y cc nL) : ru_iload cc (pS p l e R s m args below meth c D cy B b nL Qf) := by
  obtain ⟨hx, hb, hml, hown, hts, hK, hN⟩ := X
  intro pc q ls st g σ k n i z hd hq hm kk H locs l0 hW hS hl
  subst hq
  exact lv_iload hx hb hd (hl.2.2 _ (List.mem_map.mpr ⟨_, hm, rfl⟩)) (kk H locs l0 hW hS hl)
theorem so_aloadn (X : pX p s m args c D cy y cc nL) : ru_aloadn cc (pS p l e R s m args below meth c D cy B b nL Qf) := by
  obtain ⟨hx, hb, hml, hown, hts, hK, hN⟩ := X
  intro pc q ls st g σ k n j i r hd hq hj hm kk H locs l0 hW hS hl
  subst hq
  cases r with
  | none => exact lv_aload_nN hx hb hd hj (hl.2.2 _ (List.mem_map.mpr ⟨_, hm, rfl⟩)) (kk H locs l0 hW hS hl)
  | some o => exact lv_aload_n hx hb hd hj (hl.2.2 _ (List.mem_map.mpr ⟨_, hm, rfl⟩)) (kk H locs l0 hW hS hl)
theorem so_lloadn (X : pX p s m args c D cy y cc nL) : ru_lloadn cc (pS p l e R s m args below meth c D cy B b nL Qf) := by
  obtain ⟨hx, hb, hml, hown, hts, hK, hN⟩ := X
  intro pc q ls st g σ k n j i z hd hq hj hm kk H locs l0 hW hS hl
  subst hq
  exact lv_lload_n hx hb hd hj (hl.2.2 _ (List.mem_map.mpr ⟨_, hm, rfl⟩)) (kk H locs l0 hW hS hl)
theorem so_lload (X : pX p s m args c D cy y cc nL) : ru_lload cc (pS p l e R s m args below meth c D cy B b nL Qf) := by
  obtain ⟨hx, hb, hml, hown, hts, hK, hN⟩ := X
  intro pc q ls st g σ k n i z hd hq hm kk H locs l0 hW hS hl
  subst hq
  exact lv_lload hx hb hd (hl.2.2 _ (List.mem_map.mpr ⟨_, hm, rfl⟩)) (kk H locs l0 hW hS hl)
theorem so_istoren (X : pX p s m args c D cy y cc nL) : ru_istoren cc nL (pS p l e R s m args below meth c D cy B b nL Qf) := by
  obtain ⟨hx, hb, hml, hown, hts, hK, hN⟩ := X
  intro pc q ls st g σ k n j i z ls2 hd hq hj hn h2 he kk H locs l0 hW hS hl
  subst hq
  exact lv_istore_n hx hb hd hj hl hn rfl (fun l1 h1 => kk H locs l1 hW hS (by rw [← he]; exact pSt_has h2 h1))
theorem so_istore (X : pX p s m args c D cy y cc nL) : ru_istore cc nL (pS p l e R s m args below meth c D cy B b nL Qf) := by
  obtain ⟨hx, hb, hml, hown, hts, hK, hN⟩ := X
  intro pc q ls st g σ k n i z ls2 hd hq hn h2 he kk H locs l0 hW hS hl
  subst hq
  exact lv_istore hx hb hd hl hn rfl (fun l1 h1 => kk H locs l1 hW hS (by rw [← he]; exact pSt_has h2 h1))
theorem so_astoren (X : pX p s m args c D cy y cc nL) : ru_astoren cc nL (pS p l e R s m args below meth c D cy B b nL Qf) := by
  obtain ⟨hx, hb, hml, hown, hts, hK, hN⟩ := X
  intro pc q ls st g σ k n j i r ls2 hd hq hj hn h2 he kk H locs l0 hW hS hl
  subst hq
  cases r with
  | none => exact lv_astore_nN hx hb hd hj hl hn rfl (fun l1 h1 => kk H locs l1 hW hS (by rw [← he]; exact pSt_has h2 h1))
  | some o => exact lv_astore_n hx hb hd hj hl hn rfl (fun l1 h1 => kk H locs l1 hW hS (by rw [← he]; exact pSt_has h2 h1))
theorem so_iinc (X : pX p s m args c D cy y cc nL) : ru_iinc cc nL (pS p l e R s m args below meth c D cy B b nL Qf) := by
  obtain ⟨hx, hb, hml, hown, hts, hK, hN⟩ := X
  intro pc q ls st g σ k n i d z ls2 hd hq hm hn h2 he kk H locs l0 hW hS hl
  subst hq
  obtain ⟨k0, hk0⟩ := List.getElem?_of_mem (List.mem_map.mpr ⟨_, hm, rfl⟩ : (i, tV B b (vI z)) ∈ ls.map (fun q => (q.1, tV B b q.2)))
  exact lv_iinc hx hb hd hl hk0 (iv_add z d).symm hn rfl (fun l1 h1 => kk H locs l1 hW hS (by rw [← he]; exact pSt_has h2 h1))
theorem so_dup (X : pX p s m args c D cy y cc nL) : ru_dup cc (pS p l e R s m args below meth c D cy B b nL Qf) := by
  obtain ⟨hx, hb, hml, hown, hts, hK, hN⟩ := X
  intro pc q ls st g σ k n v hd hq h1 kk H locs l0 hW hS hl
  subst hq
  exact lv_dup hx hb hd ((tV_cat B b v).trans h1) (kk H locs l0 hW hS hl)
theorem so_dup2 (X : pX p s m args c D cy y cc nL) : ru_dup2 cc (pS p l e R s m args below meth c D cy B b nL Qf) := by
  obtain ⟨hx, hb, hml, hown, hts, hK, hN⟩ := X
  intro pc q ls st g σ k n v u hd hq h1 h2 kk H locs l0 hW hS hl
  subst hq
  exact lv_dup2_11 hx hb hd ((tV_cat B b v).trans h1) ((tV_cat B b u).trans h2) (kk H locs l0 hW hS hl)
theorem so_iadd (X : pX p s m args c D cy y cc nL) : ru_iadd cc (pS p l e R s m args below meth c D cy B b nL Qf) := by
  obtain ⟨hx, hb, hml, hown, hts, hK, hN⟩ := X
  intro pc q ls st g σ k n a b1 hd hq kk H locs l0 hW hS hl
  subst hq
  refine lv_iadd hx hb hd ?_
  rw [← iv_add]
  exact kk H locs l0 hW hS hl
theorem so_isub (X : pX p s m args c D cy y cc nL) : ru_isub cc (pS p l e R s m args below meth c D cy B b nL Qf) := by
  obtain ⟨hx, hb, hml, hown, hts, hK, hN⟩ := X
  intro pc q ls st g σ k n a b1 hd hq kk H locs l0 hW hS hl
  subst hq
  refine lv_isub hx hb hd ?_
  rw [← iv_sub]
  exact kk H locs l0 hW hS hl
theorem so_imul (X : pX p s m args c D cy y cc nL) : ru_imul cc (pS p l e R s m args below meth c D cy B b nL Qf) := by
  obtain ⟨hx, hb, hml, hown, hts, hK, hN⟩ := X
  intro pc q ls st g σ k n a b1 hd hq kk H locs l0 hW hS hl
  subst hq
  refine lv_imul hx hb hd ?_
  rw [← iv_mul]
  exact kk H locs l0 hW hS hl
theorem so_ladd (X : pX p s m args c D cy y cc nL) : ru_ladd cc (pS p l e R s m args below meth c D cy B b nL Qf) := by
  obtain ⟨hx, hb, hml, hown, hts, hK, hN⟩ := X
  intro pc q ls st g σ k n a b1 hd hq kk H locs l0 hW hS hl
  subst hq
  refine lv_ladd hx hb hd ?_
  rw [← jv_add]
  exact kk H locs l0 hW hS hl
theorem so_lmul (X : pX p s m args c D cy y cc nL) : ru_lmul cc (pS p l e R s m args below meth c D cy B b nL Qf) := by
  obtain ⟨hx, hb, hml, hown, hts, hK, hN⟩ := X
  intro pc q ls st g σ k n a b1 hd hq kk H locs l0 hW hS hl
  subst hq
  refine lv_lmul hx hb hd ?_
  rw [← jv_mul]
  exact kk H locs l0 hW hS hl
theorem so_idiv (X : pX p s m args c D cy y cc nL) : ru_idiv cc (pS p l e R s m args below meth c D cy B b nL Qf) := by
  obtain ⟨hx, hb, hml, hown, hts, hK, hN⟩ := X
  intro pc q ls st g σ k n a b1 hd hq h1 h2 h3 kk H locs l0 hW hS hl
  subst hq
  refine lv_idiv hx hb hd (iv_ne0 h2 h3) ?_
  rw [← iv_div h1 h2]
  exact kk H locs l0 hW hS hl
theorem so_irem (X : pX p s m args c D cy y cc nL) : ru_irem cc (pS p l e R s m args below meth c D cy B b nL Qf) := by
  obtain ⟨hx, hb, hml, hown, hts, hK, hN⟩ := X
  intro pc q ls st g σ k n a b1 hd hq h1 h2 h3 kk H locs l0 hW hS hl
  subst hq
  refine lv_irem hx hb hd (iv_ne0 h2 h3) ?_
  rw [← iv_rem h1 h2]
  exact kk H locs l0 hW hS hl
theorem so_lrem (X : pX p s m args c D cy y cc nL) : ru_lrem cc (pS p l e R s m args below meth c D cy B b nL Qf) := by
  obtain ⟨hx, hb, hml, hown, hts, hK, hN⟩ := X
  intro pc q ls st g σ k n a b1 hd hq h1 h2 h3 kk H locs l0 hW hS hl
  subst hq
  refine lv_lrem hx hb hd (fun q => h3 ((jv_eq h2 ⟨by decide, by decide⟩).mp (q.trans (show (0 : Int64) = jv 0 from rfl)))) ?_
  rw [← jv_rem h1 h2]
  exact kk H locs l0 hW hS hl
theorem so_ishl (X : pX p s m args c D cy y cc nL) : ru_ishl cc (pS p l e R s m args below meth c D cy B b nL Qf) := by
  obtain ⟨hx, hb, hml, hown, hts, hK, hN⟩ := X
  intro pc q ls st g σ k n a b1 hd hq h1 h2 h3 h4 kk H locs l0 hW hS hl
  subst hq
  refine lv_ishl hx hb hd ?_
  rw [iv_shl h1 h2 h3 h4]
  exact kk H locs l0 hW hS hl
theorem so_ishr (X : pX p s m args c D cy y cc nL) : ru_ishr cc (pS p l e R s m args below meth c D cy B b nL Qf) := by
  obtain ⟨hx, hb, hml, hown, hts, hK, hN⟩ := X
  intro pc q ls st g σ k n a b1 hd hq h1 h2 h3 h4 kk H locs l0 hW hS hl
  subst hq
  refine lv_ishr hx hb hd ?_
  rw [iv_shr h1 h2 h3 h4]
  exact kk H locs l0 hW hS hl
theorem so_iushr (X : pX p s m args c D cy y cc nL) : ru_iushr cc (pS p l e R s m args below meth c D cy B b nL Qf) := by
  obtain ⟨hx, hb, hml, hown, hts, hK, hN⟩ := X
  intro pc q ls st g σ k n a b1 hd hq h1 h2 h3 h4 kk H locs l0 hW hS hl
  subst hq
  exact lv_iushr hx hb hd (iv_ushr h1 h2 h3 h4) (kk H locs l0 hW hS hl)
theorem so_ior (X : pX p s m args c D cy y cc nL) : ru_ior cc (pS p l e R s m args below meth c D cy B b nL Qf) := by
  obtain ⟨hx, hb, hml, hown, hts, hK, hN⟩ := X
  intro pc q ls st g σ k n a b1 hd hq h1 h2 kk H locs l0 hW hS hl
  subst hq
  refine lv_ior hx hb hd ?_
  rw [iv_or h1 h2]
  exact kk H locs l0 hW hS hl
theorem so_iand (X : pX p s m args c D cy y cc nL) : ru_iand cc (pS p l e R s m args below meth c D cy B b nL Qf) := by
  obtain ⟨hx, hb, hml, hown, hts, hK, hN⟩ := X
  intro pc q ls st g σ k n a b1 hd hq h1 h2 kk H locs l0 hW hS hl
  subst hq
  refine lv_iand hx hb hd ?_
  rw [iv_and h1 h2]
  exact kk H locs l0 hW hS hl
theorem so_iand31 (X : pX p s m args c D cy y cc nL) : ru_iand31 cc (pS p l e R s m args below meth c D cy B b nL Qf) := by
  obtain ⟨hx, hb, hml, hown, hts, hK, hN⟩ := X
  intro pc q ls st g σ k n a hd hq kk H locs l0 hW hS hl
  subst hq
  refine lv_iand hx hb hd ?_
  rw [iv_and31]
  exact kk H locs l0 hW hS hl
theorem so_land (X : pX p s m args c D cy y cc nL) : ru_land cc (pS p l e R s m args below meth c D cy B b nL Qf) := by
  obtain ⟨hx, hb, hml, hown, hts, hK, hN⟩ := X
  intro pc q ls st g σ k n a b1 hd hq h1 h2 kk H locs l0 hW hS hl
  subst hq
  refine lv_land hx hb hd ?_
  rw [jv_and h1 h2]
  exact kk H locs l0 hW hS hl
theorem so_i2l (X : pX p s m args c D cy y cc nL) : ru_i2l cc (pS p l e R s m args below meth c D cy B b nL Qf) := by
  obtain ⟨hx, hb, hml, hown, hts, hK, hN⟩ := X
  intro pc q ls st g σ k n a hd hq h1 kk H locs l0 hW hS hl
  subst hq
  exact lv_i2l hx hb hd (iv_toJ h1) (kk H locs l0 hW hS hl)
theorem so_l2i (X : pX p s m args c D cy y cc nL) : ru_l2i cc (pS p l e R s m args below meth c D cy B b nL Qf) := by
  obtain ⟨hx, hb, hml, hown, hts, hK, hN⟩ := X
  intro pc q ls st g σ k n a hd hq h1 kk H locs l0 hW hS hl
  subst hq
  exact lv_l2i hx hb hd (jv_toI h1) (kk H locs l0 hW hS hl)
theorem so_lcmp (X : pX p s m args c D cy y cc nL) : ru_lcmp cc (pS p l e R s m args below meth c D cy B b nL Qf) := by
  obtain ⟨hx, hb, hml, hown, hts, hK, hN⟩ := X
  intro pc q ls st g σ k n a b1 hd hq h1 h2 kk H locs l0 hW hS hl
  subst hq
  refine W.lcmp hx hb hd ?_
  rw [jv_cmp h1 h2]
  exact kk H locs l0 hW hS hl
theorem so_goto (X : pX p s m args c D cy y cc nL) : ru_goto cc (pS p l e R s m args below meth c D cy B b nL Qf) := by
  obtain ⟨hx, hb, hml, hown, hts, hK, hN⟩ := X
  intro pc q ls st g σ k n off hd ht kk H locs l0 hW hS hl
  exact lv_goto hx hb hd ht (kk H locs l0 hW hS hl)
theorem so_icmp (X : pX p s m args c D cy y cc nL) : ru_icmp cc (pS p l e R s m args below meth c D cy B b nL Qf) := by
  obtain ⟨hx, hb, hml, hown, hts, hK, hN⟩ := X
  intro pc q ls st g σ k n t off c1 a b1 hd hq ht h1 h2 kt kf H locs l0 hW hS hl
  subst hq
  cases c1 with
  | eq => exact lv_icmp_eq hx hb hd ht (fun h => kt ((iv_eq h1 h2).mp h) H locs l0 hW hS hl) (fun h => kf (fun z => h ((iv_eq h1 h2).mpr z)) H locs l0 hW hS hl)
  | ne => exact lv_icmp_ne hx hb hd ht (fun h => kt (fun z => h ((iv_eq h1 h2).mpr z)) H locs l0 hW hS hl) (fun h => kf (fun z => z ((iv_eq h1 h2).mp h)) H locs l0 hW hS hl)
  | lt => exact lv_icmp_lt hx hb hd ht (fun h => kt ((iv_lt h1 h2).mp h) H locs l0 hW hS hl) (fun h => kf (fun z => h ((iv_lt h1 h2).mpr z)) H locs l0 hW hS hl)
  | ge => exact lv_icmp_ge hx hb hd ht (fun h => kt ((iv_le h2 h1).mp h) H locs l0 hW hS hl) (fun h => kf (fun z => h ((iv_le h2 h1).mpr z)) H locs l0 hW hS hl)
  | gt => exact lv_icmp_gt hx hb hd ht (fun h => kt ((iv_lt h2 h1).mp h) H locs l0 hW hS hl) (fun h => kf (fun z => h ((iv_lt h2 h1).mpr z)) H locs l0 hW hS hl)
  | le => exact lv_icmp_le hx hb hd ht (fun h => kt ((iv_le h1 h2).mp h) H locs l0 hW hS hl) (fun h => kf (fun z => h ((iv_le h1 h2).mpr z)) H locs l0 hW hS hl)
theorem so_ifc (X : pX p s m args c D cy y cc nL) : ru_ifc cc (pS p l e R s m args below meth c D cy B b nL Qf) := by
  obtain ⟨hx, hb, hml, hown, hts, hK, hN⟩ := X
  intro pc q ls st g σ k n t off c1 a hd hq ht h1 kt kf H locs l0 hW hS hl
  subst hq
  have h0 : iR 0 := ⟨by decide, by decide⟩
  cases c1 with
  | eq => exact lv_if_eq hx hb hd ht (fun h => kt ((iv_eq h1 h0).mp h) H locs l0 hW hS hl) (fun h => kf (fun z => h ((iv_eq h1 h0).mpr z)) H locs l0 hW hS hl)
  | ne => exact lv_if_ne hx hb hd ht (fun h => kt (fun z => h ((iv_eq h1 h0).mpr z)) H locs l0 hW hS hl) (fun h => kf (fun z => z ((iv_eq h1 h0).mp h)) H locs l0 hW hS hl)
  | lt => exact lv_if_lt hx hb hd ht (fun h => kt ((iv_lt h1 h0).mp h) H locs l0 hW hS hl) (fun h => kf (fun z => h ((iv_lt h1 h0).mpr z)) H locs l0 hW hS hl)
  | ge => exact lv_if_ge hx hb hd ht (fun h => kt ((iv_le h0 h1).mp h) H locs l0 hW hS hl) (fun h => kf (fun z => h ((iv_le h0 h1).mpr z)) H locs l0 hW hS hl)
  | gt => exact lv_if_gt hx hb hd ht (fun h => kt ((iv_lt h0 h1).mp h) H locs l0 hW hS hl) (fun h => kf (fun z => h ((iv_lt h0 h1).mpr z)) H locs l0 hW hS hl)
  | le => exact lv_if_le hx hb hd ht (fun h => kt ((iv_le h1 h0).mp h) H locs l0 hW hS hl) (fun h => kf (fun z => h ((iv_le h1 h0).mpr z)) H locs l0 hW hS hl)
theorem so_ifnn (X : pX p s m args c D cy y cc nL) : ru_ifnn cc (pS p l e R s m args below meth c D cy B b nL Qf) := by
  obtain ⟨hx, hb, hml, hown, hts, hK, hN⟩ := X
  intro pc q ls st g σ k n t off r hd hq ht kt kf H locs l0 hW hS hl
  subst hq
  cases r with
  | none => exact lv_ifnonnullN hx hb hd (kf rfl H locs l0 hW hS hl)
  | some o => exact lv_ifnonnull hx hb hd ht (kt (fun h => by cases h) H locs l0 hW hS hl)
theorem so_tsw (X : pX p s m args c D cy y cc nL) : ru_tsw cc (pS p l e R s m args below meth c D cy B b nL Qf) := by
  obtain ⟨hx, hb, hml, hown, hts, hK, hN⟩ := X
  intro pc q ls st g σ k n dflt lo hi offs len t a hd h1 ht kt kf H locs l0 hW hS hl
  by_cases h : a < lo ∨ hi < a
  · exact lv_tableOut hx hb hd (by rw [iv_toInt h1]; exact h) ht (kt h H locs l0 hW hS hl)
  · obtain ⟨off, u, e1, e2, kk⟩ := kf h
    exact lv_tableIn hx hb hd (by rw [iv_toInt h1]; omega) (by rw [iv_toInt h1]; omega) (by rw [iv_toInt h1]; exact e1) e2 (kk H locs l0 hW hS hl)
theorem so_lsw (X : pX p s m args c D cy y cc nL) : ru_lsw cc (pS p l e R s m args below meth c D cy B b nL Qf) := by
  obtain ⟨hx, hb, hml, hown, hts, hK, hN⟩ := X
  intro pc q ls st g σ k n dflt ps len a off hd h1 hp ho ht kk H locs l0 hW hS hl
  exact lv_lookup hx hb hd hp (by rw [iv_toInt h1]; exact ho) ht (kk H locs l0 hW hS hl)
theorem so_sub : ru_sub (pS p l e R s m args below meth c D cy B b nL Qf) := by
  intro pc q ls st g σ k n ls2 h kk H locs l0 hW hS hl
  refine kk H locs l0 hW hS ⟨hl.1, hl.2.1, fun z hz => ?_⟩
  obtain ⟨r, hr, rfl⟩ := List.mem_map.mp hz
  exact hl.2.2 _ (List.mem_map.mpr ⟨r, h r hr, rfl⟩)
end SO
