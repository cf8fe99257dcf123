/-! The land: values, worlds, rules. A predicate P of (pc, locals, stack, graph, memory, cells, slots) that is closed under the rules holds wherever the machine comes to its end -/
/-- the tables' words that every callee may be told -/
def lw_ok : List Cond := lw_tbl.filter goodWord
abbrev pV : Type := Int ⊕ (Int ⊕ Option Nat)
abbrev vI (z : Int) : pV := Sum.inl z
abbrev vJ (z : Int) : pV := Sum.inr (Sum.inl z)
abbrev vR (r : Option Nat) : pV := Sum.inr (Sum.inr r)
/-- an address: number 0 is the script, the others are the cells that are made -/
def tA (B b : Nat) (k : Nat) : Nat := match k with
  | 0 => b
  | k + 1 => B + k
def tV (B b : Nat) (v : pV) : Value := match v with
  | .inl z => .int (iv z)
  | .inr (.inl z) => .long (jv z)
  | .inr (.inr r) => va_rf (r.map (tA B b))
def pC (v : pV) : Nat := match v with
  | .inr (.inl _) => 2
  | _ => 1
abbrev pL : Type := List (Nat × pV)
/-- how many cells (the script is one), the kind and length of each, the references -/
abbrev pG : Type := Nat × (Nat → Nat × Nat) × (Nat → Nat → Option Nat)
abbrev pM : Type := Nat → Nat → Int
abbrev pQ : Type := List pV → pG → pM → Prop
abbrev pH : Type := MethodName → List pV → pG → pM → pQ → Prop
abbrev pP : Type := Nat → pL → List pV → pG → pM → Nat → Nat → Prop
def up2 {α : Type} (f : Nat → Nat → α) (o k : Nat) (v : α) : Nat → Nat → α := fun a j => if a = o then (if j = k then v else f a j) else f a j
def up1 {α : Type} (f : Nat → α) (o : Nat) (v : α) : Nat → α := fun a => if a = o then v else f a
/-- fields of a class: how many; which are references; which are booleans -/
def pN (ci : Nat) : Nat := match ci with
  | 0 => 3 | 1 => 3 | 2 => 3 | 3 => 18 | 4 => 13 | 5 => 9 | 6 => 14 | _ => 0
def pF (ci j : Nat) : Bool := match ci with
  | 0 => decide (1 ≤ j) | 1 => decide (2 ≤ j) | 2 => decide (2 ≤ j) | 3 => decide (13 ≤ j) | 4 => decide (8 ≤ j) | 5 => decide (j ≤ 6)
  | 6 => decide (j ≤ 2) || (decide (6 ≤ j) && decide (j ≤ 7)) || decide (11 ≤ j) | _ => false
def pZ (ci j : Nat) : Bool := match ci with
  | 2 => decide (j = 0) | 3 => decide (j = 0) || decide (j = 12) | 5 => decide (j = 8) | _ => false
def pFV (g : pG) (σ : pM) (o ci j : Nat) : pV := if pF ci j = true then vR (g.2.2 o j) else vI (σ o j)
/-- a local is stored: in the order of the numbers -/
def pSt (i : Nat) (v : pV) : pL → pL
  | [] => [(i, v)]
  | q :: t => if q.1 = i then (i, v) :: t.filter (fun r => !(r.1 == i)) else if i < q.1 then (i, v) :: q :: t.filter (fun r => !(r.1 == i)) else q :: pSt i v t
def pAg : Nat → List pV → pL
  | _, [] => []
  | i, v :: t => (i, v) :: pAg (if pC v = 2 then i + 2 else i + 1) t
def pCmp (c : Jvm.ClassFile.Cond) (x y : Int) : Prop := match c with
  | .eq => x = y
  | .ne => ¬ x = y
  | .lt => x < y
  | .ge => y ≤ x
  | .gt => y < x
  | .le => x ≤ y
/-- a field's link: the pool's entry 'idx' of class 'own' is field f of class ci -/
def pFl (own : String) (idx ci f : Nat) : Prop := ∃ (C : String) (T : u_T), vwCl[ci]? = some (C, T, pN ci) ∧ f < pN ci ∧ (T f).1 = C ∧ Cond.fieldLink own idx C (T f).2.1 (T f).2.2.1 ∈ lw_ok
def pFin (ci f : Nat) : Bool := match vwCl[ci]? with
  | some q => (q.2.1 f).2.2.2
  | none => false
/-- how many parameters -/
def pPar (y : MethodName) (n : Nat) : Prop := y.cls ≠ "java/lang/invoke/MethodHandle" ∧ y.cls ≠ "java/lang/invoke/VarHandle" ∧ (parseMethodDescriptor y.desc).map (fun d => d.parameters.length) = some n
/-- what a call may make: cells, slots -/
def pBd (y : MethodName) : Nat × Nat := if y.name = "<init>" then (if y.cls = "PourPlan$Wall" then (5, 45) else if y.cls = "PourPlan$Planner" then (5, 64) else if y.cls = "PourPlan$History" then (121, 1180) else if y.cls = "PourPlan$Book" then (2, 40) else if y.cls = "PourPlan$Image" then (6, 58) else if y.cls = "PourPlan" then (164, 1630) else if y.cls = "PourPlanModel" then (8, 1373) else (0, 0)) else (0, 0)
def pArr (kd : Nat) : Prop := kd = 7 ∨ kd = 8 ∨ kd = 9 ∨ kd = 10 ∨ kd = 11

def ru_iconst (cc : ByteArray) (P : pP) : Prop := ∀ (pc q : Nat) (ls : pL) (st : List pV) (g : pG) (σ : pM) (k n : Nat) (z : Int), decode cc pc = .ok (.iconst z, 1) → pc + 1 = q → P q ls (vI z :: st) g σ k n → P pc ls (st) g σ k n
def ru_bipush (cc : ByteArray) (P : pP) : Prop := ∀ (pc q : Nat) (ls : pL) (st : List pV) (g : pG) (σ : pM) (k n : Nat) (z : Int), decode cc pc = .ok (.bipush z, 2) → pc + 2 = q → (-128 ≤ z ∧ z < 128) → P q ls (vI z :: st) g σ k n → P pc ls (st) g σ k n
def ru_sipush (cc : ByteArray) (P : pP) : Prop := ∀ (pc q : Nat) (ls : pL) (st : List pV) (g : pG) (σ : pM) (k n : Nat) (z : Int), decode cc pc = .ok (.sipush z, 3) → pc + 3 = q → (-32768 ≤ z ∧ z < 32768) → P q ls (vI z :: st) g σ k n → P pc ls (st) g σ k n
def ru_lconst (cc : ByteArray) (P : pP) : Prop := ∀ (pc q : Nat) (ls : pL) (st : List pV) (g : pG) (σ : pM) (k n : Nat) (z : Fin 2), decode cc pc = .ok (.lconst z, 1) → pc + 1 = q → P q ls (vJ ((z : Nat) : Int) :: st) g σ k n → P pc ls (st) g σ k n
def ru_ldc (y : MethodName) (cc : ByteArray) (P : pP) : Prop := ∀ (pc q : Nat) (ls : pL) (st : List pV) (g : pG) (σ : pM) (k n : Nat) (i : Nat) (z : Int), decode cc pc = .ok (.ldc i, 2) → pc + 2 = q → Cond.constant y.cls i (iv z) ∈ lw_ok → P q ls (vI z :: st) g σ k n → P pc ls (st) g σ k n
def ru_ldcw (y : MethodName) (cc : ByteArray) (P : pP) : Prop := ∀ (pc q : Nat) (ls : pL) (st : List pV) (g : pG) (σ : pM) (k n : Nat) (i : Nat) (z : Int), decode cc pc = .ok (.ldc_w i, 3) → pc + 3 = q → Cond.constant y.cls i (iv z) ∈ lw_ok → P q ls (vI z :: st) g σ k n → P pc ls (st) g σ k n
def ru_ldc2 (y : MethodName) (cc : ByteArray) (P : pP) : Prop := ∀ (pc q : Nat) (ls : pL) (st : List pV) (g : pG) (σ : pM) (k n : Nat) (i : Nat) (z : Int), decode cc pc = .ok (.ldc2_w i, 3) → pc + 3 = q → Cond.constantLong y.cls i (jv z) ∈ lw_ok → P q ls (vJ z :: st) g σ k n → P pc ls (st) g σ k n
def ru_null (cc : ByteArray) (P : pP) : Prop := ∀ (pc q : Nat) (ls : pL) (st : List pV) (g : pG) (σ : pM) (k n : Nat), decode cc pc = .ok (.aconst_null, 1) → pc + 1 = q → P q ls (vR none :: st) g σ k n → P pc ls (st) g σ k n
def ru_iloadn (cc : ByteArray) (P : pP) : Prop := ∀ (pc q : Nat) (ls : pL) (st : List pV) (g : pG) (σ : pM) (k n : Nat) (j : Fin 4) (i : Nat) (z : Int), decode cc pc = .ok (.iload_n j, 1) → pc + 1 = q → (j : Nat) = i → (i, vI z) ∈ ls → P q ls (vI z :: st) g σ k n → P pc ls (st) g σ k n
def ru_iload (cc : ByteArray) (P : pP) : Prop := ∀ (pc q : Nat) (ls : pL) (st : List pV) (g : pG) (σ : pM) (k n : Nat) (i : Nat) (z : Int), decode cc pc = .ok (.iload i, 2) → pc + 2 = q → (i, vI z) ∈ ls → P q ls (vI z :: st) g σ k n → P pc ls (st) g σ k n
def ru_aloadn (cc : ByteArray) (P : pP) : Prop := ∀ (pc q : Nat) (ls : pL) (st : List pV) (g : pG) (σ : pM) (k n : Nat) (j : Fin 4) (i : Nat) (r : Option Nat), decode cc pc = .ok (.aload_n j, 1) → pc + 1 = q → (j : Nat) = i → (i, vR r) ∈ ls → P q ls (vR r :: st) g σ k n → P pc ls (st) g σ k n
def ru_lloadn (cc : ByteArray) (P : pP) : Prop := ∀ (pc q : Nat) (ls : pL) (st : List pV) (g : pG) (σ : pM) (k n : Nat) (j : Fin 4) (i : Nat) (z : Int), decode cc pc = .ok (.lload_n j, 1) → pc + 1 = q → (j : Nat) = i → (i, vJ z) ∈ ls → P q ls (vJ z :: st) g σ k n → P pc ls (st) g σ k n
def ru_lload (cc : ByteArray) (P : pP) : Prop := ∀ (pc q : Nat) (ls : pL) (st : List pV) (g : pG) (σ : pM) (k n : Nat) (i : Nat) (z : Int), decode cc pc = .ok (.lload i, 2) → pc + 2 = q → (i, vJ z) ∈ ls → P q ls (vJ z :: st) g σ k n → P pc ls (st) g σ k n
def ru_istoren (cc : ByteArray) (nL : Nat) (P : pP) : Prop := ∀ (pc q : Nat) (ls : pL) (st : List pV) (g : pG) (σ : pM) (k n : Nat) (j : Fin 4) (i : Nat) (z : Int) (ls2 : pL), decode cc pc = .ok (.istore_n j, 1) → pc + 1 = q → (j : Nat) = i → i < nL → ls.all (fun q => !(q.1 + 1 == i && pC q.2 == 2)) = true → pSt i (vI z) ls = ls2 → P q ls2 (st) g σ k n → P pc ls (vI z :: st) g σ k n
def ru_istore (cc : ByteArray) (nL : Nat) (P : pP) : Prop := ∀ (pc q : Nat) (ls : pL) (st : List pV) (g : pG) (σ : pM) (k n : Nat) (i : Nat) (z : Int) (ls2 : pL), decode cc pc = .ok (.istore i, 2) → pc + 2 = q → i < nL → ls.all (fun q => !(q.1 + 1 == i && pC q.2 == 2)) = true → pSt i (vI z) ls = ls2 → P q ls2 (st) g σ k n → P pc ls (vI z :: st) g σ k n
def ru_astoren (cc : ByteArray) (nL : Nat) (P : pP) : Prop := ∀ (pc q : Nat) (ls : pL) (st : List pV) (g : pG) (σ : pM) (k n : Nat) (j : Fin 4) (i : Nat) (r : Option Nat) (ls2 : pL), decode cc pc = .ok (.astore_n j, 1) → pc + 1 = q → (j : Nat) = i → i < nL → ls.all (fun q => !(q.1 + 1 == i && pC q.2 == 2)) = true → pSt i (vR r) ls = ls2 → P q ls2 (st) g σ k n → P pc ls (vR r :: st) g σ k n
def ru_iinc (cc : ByteArray) (nL : Nat) (P : pP) : Prop := ∀ (pc q : Nat) (ls : pL) (st : List pV) (g : pG) (σ : pM) (k n : Nat) (i : Nat) (d z : Int) (ls2 : pL), decode cc pc = .ok (.iinc i d, 3) → pc + 3 = q → (i, vI z) ∈ ls → i < nL → ls.all (fun q => !(q.1 + 1 == i && pC q.2 == 2)) = true → pSt i (vI (z + d)) ls = ls2 → P q ls2 (st) g σ k n → P pc ls (st) g σ k n
def ru_dup (cc : ByteArray) (P : pP) : Prop := ∀ (pc q : Nat) (ls : pL) (st : List pV) (g : pG) (σ : pM) (k n : Nat) (v : pV), decode cc pc = .ok (.dup, 1) → pc + 1 = q → pC v = 1 → P q ls (v :: v :: st) g σ k n → P pc ls (v :: st) g σ k n
def ru_dup2 (cc : ByteArray) (P : pP) : Prop := ∀ (pc q : Nat) (ls : pL) (st : List pV) (g : pG) (σ : pM) (k n : Nat) (v u : pV), decode cc pc = .ok (.dup2, 1) → pc + 1 = q → pC v = 1 → pC u = 1 → P q ls (v :: u :: v :: u :: st) g σ k n → P pc ls (v :: u :: st) g σ k n
def ru_iadd (cc : ByteArray) (P : pP) : Prop := ∀ (pc q : Nat) (ls : pL) (st : List pV) (g : pG) (σ : pM) (k n : Nat) (a b : Int), decode cc pc = .ok (.iadd, 1) → pc + 1 = q → P q ls (vI (a + b) :: st) g σ k n → P pc ls (vI b :: vI a :: st) g σ k n
def ru_isub (cc : ByteArray) (P : pP) : Prop := ∀ (pc q : Nat) (ls : pL) (st : List pV) (g : pG) (σ : pM) (k n : Nat) (a b : Int), decode cc pc = .ok (.isub, 1) → pc + 1 = q → P q ls (vI (a - b) :: st) g σ k n → P pc ls (vI b :: vI a :: st) g σ k n
def ru_imul (cc : ByteArray) (P : pP) : Prop := ∀ (pc q : Nat) (ls : pL) (st : List pV) (g : pG) (σ : pM) (k n : Nat) (a b : Int), decode cc pc = .ok (.imul, 1) → pc + 1 = q → P q ls (vI (a * b) :: st) g σ k n → P pc ls (vI b :: vI a :: st) g σ k n
def ru_ladd (cc : ByteArray) (P : pP) : Prop := ∀ (pc q : Nat) (ls : pL) (st : List pV) (g : pG) (σ : pM) (k n : Nat) (a b : Int), decode cc pc = .ok (.ladd, 1) → pc + 1 = q → P q ls (vJ (a + b) :: st) g σ k n → P pc ls (vJ b :: vJ a :: st) g σ k n
def ru_lmul (cc : ByteArray) (P : pP) : Prop := ∀ (pc q : Nat) (ls : pL) (st : List pV) (g : pG) (σ : pM) (k n : Nat) (a b : Int), decode cc pc = .ok (.lmul, 1) → pc + 1 = q → P q ls (vJ (a * b) :: st) g σ k n → P pc ls (vJ b :: vJ a :: st) g σ k n
def ru_idiv (cc : ByteArray) (P : pP) : Prop := ∀ (pc q : Nat) (ls : pL) (st : List pV) (g : pG) (σ : pM) (k n : Nat) (a b : Int), decode cc pc = .ok (.idiv, 1) → pc + 1 = q → iR a → iR b → b ≠ 0 → P q ls (vI (a.tdiv b) :: st) g σ k n → P pc ls (vI b :: vI a :: st) g σ k n
def ru_irem (cc : ByteArray) (P : pP) : Prop := ∀ (pc q : Nat) (ls : pL) (st : List pV) (g : pG) (σ : pM) (k n : Nat) (a b : Int), decode cc pc = .ok (.irem, 1) → pc + 1 = q → iR a → iR b → b ≠ 0 → P q ls (vI (a.tmod b) :: st) g σ k n → P pc ls (vI b :: vI a :: st) g σ k n
def ru_lrem (cc : ByteArray) (P : pP) : Prop := ∀ (pc q : Nat) (ls : pL) (st : List pV) (g : pG) (σ : pM) (k n : Nat) (a b : Int), decode cc pc = .ok (.lrem, 1) → pc + 1 = q → jR a → jR b → b ≠ 0 → P q ls (vJ (a.tmod b) :: st) g σ k n → P pc ls (vJ b :: vJ a :: st) g σ k n
def ru_ishl (cc : ByteArray) (P : pP) : Prop := ∀ (pc q : Nat) (ls : pL) (st : List pV) (g : pG) (σ : pM) (k n : Nat) (a b : Int), decode cc pc = .ok (.ishl, 1) → pc + 1 = q → 0 ≤ a → 0 ≤ b → b < 32 → a * 2 ^ b.toNat < 4294967296 → P q ls (vI (a * 2 ^ b.toNat) :: st) g σ k n → P pc ls (vI b :: vI a :: st) g σ k n
def ru_ishr (cc : ByteArray) (P : pP) : Prop := ∀ (pc q : Nat) (ls : pL) (st : List pV) (g : pG) (σ : pM) (k n : Nat) (a b : Int), decode cc pc = .ok (.ishr, 1) → pc + 1 = q → 0 ≤ a → a < 2147483648 → 0 ≤ b → b < 32 → P q ls (vI (a / 2 ^ b.toNat) :: st) g σ k n → P pc ls (vI b :: vI a :: st) g σ k n
def ru_iushr (cc : ByteArray) (P : pP) : Prop := ∀ (pc q : Nat) (ls : pL) (st : List pV) (g : pG) (σ : pM) (k n : Nat) (a b : Int), decode cc pc = .ok (.iushr, 1) → pc + 1 = q → 0 ≤ a → a < 2147483648 → 0 ≤ b → b < 32 → P q ls (vI (a / 2 ^ b.toNat) :: st) g σ k n → P pc ls (vI b :: vI a :: st) g σ k n
def ru_ior (cc : ByteArray) (P : pP) : Prop := ∀ (pc q : Nat) (ls : pL) (st : List pV) (g : pG) (σ : pM) (k n : Nat) (a b : Int), decode cc pc = .ok (.ior, 1) → pc + 1 = q → 0 ≤ a → 0 ≤ b → P q ls (vI ((a.toNat ||| b.toNat : Nat) : Int) :: st) g σ k n → P pc ls (vI b :: vI a :: st) g σ k n
def ru_iand (cc : ByteArray) (P : pP) : Prop := ∀ (pc q : Nat) (ls : pL) (st : List pV) (g : pG) (σ : pM) (k n : Nat) (a b : Int), decode cc pc = .ok (.iand, 1) → pc + 1 = q → 0 ≤ a → 0 ≤ b → P q ls (vI ((a.toNat &&& b.toNat : Nat) : Int) :: st) g σ k n → P pc ls (vI b :: vI a :: st) g σ k n
def ru_iand31 (cc : ByteArray) (P : pP) : Prop := ∀ (pc q : Nat) (ls : pL) (st : List pV) (g : pG) (σ : pM) (k n : Nat) (a : Int), decode cc pc = .ok (.iand, 1) → pc + 1 = q → P q ls (vI (a % 32) :: st) g σ k n → P pc ls (vI 31 :: vI a :: st) g σ k n
def ru_land (cc : ByteArray) (P : pP) : Prop := ∀ (pc q : Nat) (ls : pL) (st : List pV) (g : pG) (σ : pM) (k n : Nat) (a b : Int), decode cc pc = .ok (.land, 1) → pc + 1 = q → 0 ≤ a → 0 ≤ b → P q ls (vJ ((a.toNat &&& b.toNat : Nat) : Int) :: st) g σ k n → P pc ls (vJ b :: vJ a :: st) g σ k n
def ru_i2l (cc : ByteArray) (P : pP) : Prop := ∀ (pc q : Nat) (ls : pL) (st : List pV) (g : pG) (σ : pM) (k n : Nat) (a : Int), decode cc pc = .ok (.i2l, 1) → pc + 1 = q → iR a → P q ls (vJ a :: st) g σ k n → P pc ls (vI a :: st) g σ k n
def ru_l2i (cc : ByteArray) (P : pP) : Prop := ∀ (pc q : Nat) (ls : pL) (st : List pV) (g : pG) (σ : pM) (k n : Nat) (a : Int), decode cc pc = .ok (.l2i, 1) → pc + 1 = q → 0 ≤ a → P q ls (vI a :: st) g σ k n → P pc ls (vJ a :: st) g σ k n
def ru_lcmp (cc : ByteArray) (P : pP) : Prop := ∀ (pc q : Nat) (ls : pL) (st : List pV) (g : pG) (σ : pM) (k n : Nat) (a b : Int), decode cc pc = .ok (.lcmp, 1) → pc + 1 = q → jR a → jR b → P q ls (vI (if b < a then 1 else if a = b then 0 else -1) :: st) g σ k n → P pc ls (vJ b :: vJ a :: st) g σ k n
def ru_goto (cc : ByteArray) (P : pP) : Prop := ∀ (pc q : Nat) (ls : pL) (st : List pV) (g : pG) (σ : pM) (k n : Nat) (off : Int), decode cc pc = .ok (.goto off, 3) → (pc : Int) + off = (q : Int) → P q ls (st) g σ k n → P pc ls (st) g σ k n
def ru_icmp (cc : ByteArray) (P : pP) : Prop := ∀ (pc q : Nat) (ls : pL) (st : List pV) (g : pG) (σ : pM) (k n : Nat) (t : Nat) (off : Int) (c : Jvm.ClassFile.Cond) (a b : Int), decode cc pc = .ok (.if_icmp c off, 3) → pc + 3 = q → (pc : Int) + off = (t : Int) → iR a → iR b → (pCmp c a b → P t ls (st) g σ k n) → (¬ pCmp c a b → P q ls (st) g σ k n) → P pc ls (vI b :: vI a :: st) g σ k n
def ru_ifc (cc : ByteArray) (P : pP) : Prop := ∀ (pc q : Nat) (ls : pL) (st : List pV) (g : pG) (σ : pM) (k n : Nat) (t : Nat) (off : Int) (c : Jvm.ClassFile.Cond) (a : Int), decode cc pc = .ok (.ifCond c off, 3) → pc + 3 = q → (pc : Int) + off = (t : Int) → iR a → (pCmp c a 0 → P t ls (st) g σ k n) → (¬ pCmp c a 0 → P q ls (st) g σ k n) → P pc ls (vI a :: st) g σ k n
def ru_ifnn (cc : ByteArray) (P : pP) : Prop := ∀ (pc q : Nat) (ls : pL) (st : List pV) (g : pG) (σ : pM) (k n : Nat) (t : Nat) (off : Int) (r : Option Nat), decode cc pc = .ok (.ifnonnull off, 3) → pc + 3 = q → (pc : Int) + off = (t : Int) → (r ≠ none → P t ls (st) g σ k n) → (r = none → P q ls (st) g σ k n) → P pc ls (vR r :: st) g σ k n
def ru_tsw (cc : ByteArray) (P : pP) : Prop := ∀ (pc q : Nat) (ls : pL) (st : List pV) (g : pG) (σ : pM) (k n : Nat) (dflt lo hi : Int) (offs : Array Int) (len t : Nat) (a : Int), decode cc pc = .ok (.tableswitch dflt lo hi offs, len) → iR a → (pc : Int) + dflt = (t : Int) → ((a < lo ∨ hi < a) → P t ls (st) g σ k n) → (¬ (a < lo ∨ hi < a) → ∃ off : Int, ∃ u : Nat, offs[(a - lo).toNat]? = some off ∧ (pc : Int) + off = (u : Int) ∧ P u ls (st) g σ k n) → P pc ls (vI a :: st) g σ k n
def ru_lsw (cc : ByteArray) (P : pP) : Prop := ∀ (pc q : Nat) (ls : pL) (st : List pV) (g : pG) (σ : pM) (k n : Nat) (dflt : Int) (ps : Array (Int × Int)) (len : Nat) (a : Int) (off : Int), decode cc pc = .ok (.lookupswitch dflt ps, len) → iR a → (ps.toList.zip (ps.toList.drop 1)).all (fun (a, next) => a.1 < next.1) = true → Op.lookupswitch.offset ps.toList dflt a = off → (pc : Int) + off = (q : Int) → P q ls (st) g σ k n → P pc ls (vI a :: st) g σ k n
def ru_getf (y : MethodName) (cc : ByteArray) (P : pP) : Prop := ∀ (pc q : Nat) (ls : pL) (st : List pV) (g : pG) (σ : pM) (k n : Nat) (i o ci f : Nat), decode cc pc = .ok (.getfield i, 3) → pc + 3 = q → o < g.1 → (g.2.1 o).1 = ci → ci < 7 → pFl y.cls i ci f → P q ls (pFV g σ o ci f :: st) g σ k n → P pc ls (vR (some o) :: st) g σ k n
def ru_putf (y : MethodName) (cc : ByteArray) (P : pP) : Prop := ∀ (pc q : Nat) (ls : pL) (st : List pV) (g : pG) (σ : pM) (k n : Nat) (i o ci f : Nat) (z : Int), decode cc pc = .ok (.putfield i, 3) → pc + 3 = q → o < g.1 → (g.2.1 o).1 = ci → ci < 7 → pFl y.cls i ci f → pF ci f = false → pFin ci f = false → (pZ ci f = true → z = 0 ∨ z = 1) → P q ls (st) g (up2 σ o f z) k n → P pc ls (vI z :: vR (some o) :: st) g σ k n
def ru_putr (y : MethodName) (cc : ByteArray) (P : pP) : Prop := ∀ (pc q : Nat) (ls : pL) (st : List pV) (g : pG) (σ : pM) (k n : Nat) (i o ci f : Nat) (r : Option Nat), decode cc pc = .ok (.putfield i, 3) → pc + 3 = q → o < g.1 → (g.2.1 o).1 = ci → ci < 7 → pFl y.cls i ci f → pF ci f = true → pFin ci f = true → y.name = "<init>" → vwCl[ci]?.map (fun q => q.1) = some y.cls → P q ls (st) (g.1, g.2.1, up2 g.2.2 o f r) σ k n → P pc ls (vR r :: vR (some o) :: st) g σ k n
def ru_iald (cc : ByteArray) (P : pP) : Prop := ∀ (pc q : Nat) (ls : pL) (st : List pV) (g : pG) (σ : pM) (k n : Nat) (o : Nat) (j : Int), decode cc pc = .ok (.iaload, 1) → pc + 1 = q → o < g.1 → ((g.2.1 o).1 = 7 ∨ (g.2.1 o).1 = 11) → 0 ≤ j → j < ((g.2.1 o).2 : Int) → (g.2.1 o).2 < 2147483648 → P q ls (vI (σ o j.toNat) :: st) g σ k n → P pc ls (vI j :: vR (some o) :: st) g σ k n
def ru_iast (cc : ByteArray) (P : pP) : Prop := ∀ (pc q : Nat) (ls : pL) (st : List pV) (g : pG) (σ : pM) (k n : Nat) (o : Nat) (j z : Int), decode cc pc = .ok (.iastore, 1) → pc + 1 = q → o < g.1 → (g.2.1 o).1 = 7 → 0 ≤ j → j < ((g.2.1 o).2 : Int) → (g.2.1 o).2 < 2147483648 → P q ls (st) g (up2 σ o j.toNat z) k n → P pc ls (vI z :: vI j :: vR (some o) :: st) g σ k n
def ru_zald (cc : ByteArray) (P : pP) : Prop := ∀ (pc q : Nat) (ls : pL) (st : List pV) (g : pG) (σ : pM) (k n : Nat) (o : Nat) (j : Int), decode cc pc = .ok (.baload, 1) → pc + 1 = q → o < g.1 → (g.2.1 o).1 = 8 → 0 ≤ j → j < ((g.2.1 o).2 : Int) → (g.2.1 o).2 < 2147483648 → P q ls (vI (σ o j.toNat) :: st) g σ k n → P pc ls (vI j :: vR (some o) :: st) g σ k n
def ru_zast (cc : ByteArray) (P : pP) : Prop := ∀ (pc q : Nat) (ls : pL) (st : List pV) (g : pG) (σ : pM) (k n : Nat) (o : Nat) (j z : Int), decode cc pc = .ok (.bastore, 1) → pc + 1 = q → o < g.1 → (g.2.1 o).1 = 8 → 0 ≤ j → j < ((g.2.1 o).2 : Int) → (g.2.1 o).2 < 2147483648 → (z = 0 ∨ z = 1) → P q ls (st) g (up2 σ o j.toNat z) k n → P pc ls (vI z :: vI j :: vR (some o) :: st) g σ k n
def ru_aald (cc : ByteArray) (P : pP) : Prop := ∀ (pc q : Nat) (ls : pL) (st : List pV) (g : pG) (σ : pM) (k n : Nat) (o : Nat) (j : Int), decode cc pc = .ok (.aaload, 1) → pc + 1 = q → o < g.1 → ((g.2.1 o).1 = 9 ∨ (g.2.1 o).1 = 10) → 0 ≤ j → j < ((g.2.1 o).2 : Int) → (g.2.1 o).2 < 2147483648 → P q ls (vR (g.2.2 o j.toNat) :: st) g σ k n → P pc ls (vI j :: vR (some o) :: st) g σ k n
def ru_aast (cc : ByteArray) (P : pP) : Prop := ∀ (pc q : Nat) (ls : pL) (st : List pV) (g : pG) (σ : pM) (k n : Nat) (o v : Nat) (j : Int), decode cc pc = .ok (.aastore, 1) → pc + 1 = q → o < g.1 → v < g.1 → (((g.2.1 o).1 = 9 ∧ (g.2.1 v).1 = 2) ∨ ((g.2.1 o).1 = 10 ∧ (g.2.1 v).1 = 4)) → 0 ≤ j → j < ((g.2.1 o).2 : Int) → (g.2.1 o).2 < 2147483648 → P q ls (st) (g.1, g.2.1, up2 g.2.2 o j.toNat (some v)) σ k n → P pc ls (vR (some v) :: vI j :: vR (some o) :: st) g σ k n
def ru_alen (cc : ByteArray) (P : pP) : Prop := ∀ (pc q : Nat) (ls : pL) (st : List pV) (g : pG) (σ : pM) (k n : Nat) (o : Nat), decode cc pc = .ok (.arraylength, 1) → pc + 1 = q → o < g.1 → pArr (g.2.1 o).1 → P q ls (vI ((g.2.1 o).2 : Int) :: st) g σ k n → P pc ls (vR (some o) :: st) g σ k n
def ru_new (y : MethodName) (cc : ByteArray) (bc bs : Nat) (P : pP) : Prop := ∀ (pc q : Nat) (ls : pL) (st : List pV) (g : pG) (σ : pM) (k n : Nat) (i ci : Nat) (C : String) (T : u_T), decode cc pc = .ok (.new i, 3) → pc + 3 = q → vwCl[ci]? = some (C, T, pN ci) → ci < 7 → Cond.classLink y.cls i C ∈ lw_ok → Cond.instantiable C (pN ci) ∈ lw_ok → Cond.initialized C ∈ lw_ok → k + 1 ≤ bc → n + pN ci ≤ bs → P q ls (vR (some g.1) :: st) (g.1 + 1, up1 g.2.1 g.1 (ci, 0), up1 g.2.2 g.1 (fun _ => none)) (up1 σ g.1 (fun _ => 0)) (k + 1) (n + pN ci) → P pc ls (st) g σ k n
def ru_newi (cc : ByteArray) (bc bs : Nat) (P : pP) : Prop := ∀ (pc q : Nat) (ls : pL) (st : List pV) (g : pG) (σ : pM) (k n : Nat) (N : Nat), decode cc pc = .ok (.newarray .int, 2) → pc + 2 = q → N < 100000 → k + 1 ≤ bc → n + N ≤ bs → P q ls (vR (some g.1) :: st) (g.1 + 1, up1 g.2.1 g.1 (7, N), up1 g.2.2 g.1 (fun _ => none)) (up1 σ g.1 (fun _ => 0)) (k + 1) (n + N) → P pc ls (vI (N : Int) :: st) g σ k n
def ru_newz (cc : ByteArray) (bc bs : Nat) (P : pP) : Prop := ∀ (pc q : Nat) (ls : pL) (st : List pV) (g : pG) (σ : pM) (k n : Nat) (N : Nat), decode cc pc = .ok (.newarray .boolean, 2) → pc + 2 = q → N < 100000 → k + 1 ≤ bc → n + N ≤ bs → P q ls (vR (some g.1) :: st) (g.1 + 1, up1 g.2.1 g.1 (8, N), up1 g.2.2 g.1 (fun _ => none)) (up1 σ g.1 (fun _ => 0)) (k + 1) (n + N) → P pc ls (vI (N : Int) :: st) g σ k n
def ru_newq (y : MethodName) (cc : ByteArray) (bc bs : Nat) (P : pP) : Prop := ∀ (pc q : Nat) (ls : pL) (st : List pV) (g : pG) (σ : pM) (k n : Nat) (i N kd : Nat) (C : String), decode cc pc = .ok (.anewarray i, 3) → pc + 3 = q → N < 100000 → ((kd = 9 ∧ C = "PourPlan$Image") ∨ (kd = 10 ∧ C = "PourPlan$Wall")) → Cond.classLink y.cls i C ∈ lw_ok → k + 1 ≤ bc → n + N ≤ bs → P q ls (vR (some g.1) :: st) (g.1 + 1, up1 g.2.1 g.1 (kd, N), up1 g.2.2 g.1 (fun _ => none)) (up1 σ g.1 (fun _ => 0)) (k + 1) (n + N) → P pc ls (vI (N : Int) :: st) g σ k n
def ru_oini (y : MethodName) (cc : ByteArray) (P : pP) : Prop := ∀ (pc q : Nat) (ls : pL) (st : List pV) (g : pG) (σ : pM) (k n : Nat) (i o : Nat), decode cc pc = .ok (.invokespecial i, 3) → pc + 3 = q → Cond.methodLink y.cls i objectInit ∈ lw_ok → (st.map pC).sum ≤ 8 → P q ls (st) g σ k n → P pc ls (vR (some o) :: st) g σ k n
def ru_callv (C : pH) (y : MethodName) (cc : ByteArray) (bc bs : Nat) (P : pP) : Prop := ∀ (pc q : Nat) (ls : pL) (st : List pV) (g : pG) (σ : pM) (k n : Nat) (i o ci : Nat) (z : MethodName) (as : List pV) (m : Nat) (st0 : List pV), decode cc pc = .ok (.invokevirtual i, 3) → pc + 3 = q → o < g.1 → (g.2.1 o).1 = ci → ci < 7 → vwCl[ci]?.map (fun q => q.1) = some z.cls → Cond.methodLink y.cls i z ∈ lw_ok → Cond.instanceMethod z ∈ lw_ok → Cond.selects z.cls z z ∈ lw_ok → Cond.initialized z.cls ∈ lw_ok → pPar z m → as.length = m → st0 = as.reverse ++ vR (some o) :: st → k + (pBd z).1 ≤ bc → n + (pBd z).2 ≤ bs → (st.map pC).sum ≤ 8 → C z (vR (some o) :: as) g σ (fun r g2 σ2 => P q ls (r ++ st) g2 σ2 (k + (pBd z).1) (n + (pBd z).2)) → P pc ls (st0) g σ k n
def ru_calls (C : pH) (y : MethodName) (cc : ByteArray) (bc bs : Nat) (P : pP) : Prop := ∀ (pc q : Nat) (ls : pL) (st : List pV) (g : pG) (σ : pM) (k n : Nat) (i : Nat) (z : MethodName) (as : List pV) (m : Nat) (st0 : List pV), decode cc pc = .ok (.invokestatic i, 3) → pc + 3 = q → Cond.methodLink y.cls i z ∈ lw_ok → Cond.static z ∈ lw_ok → Cond.initialized z.cls ∈ lw_ok → pPar z m → as.length = m → st0 = as.reverse ++ st → k + (pBd z).1 ≤ bc → n + (pBd z).2 ≤ bs → (st.map pC).sum ≤ 8 → C z as g σ (fun r g2 σ2 => P q ls (r ++ st) g2 σ2 (k + (pBd z).1) (n + (pBd z).2)) → P pc ls (st0) g σ k n
def ru_callsn (C : pH) (y : MethodName) (cc : ByteArray) (bc bs : Nat) (P : pP) : Prop := ∀ (pc q : Nat) (ls : pL) (st : List pV) (g : pG) (σ : pM) (k n : Nat) (i : Nat) (host : String) (z : MethodName) (as : List pV) (m : Nat) (st0 : List pV), decode cc pc = .ok (.invokestatic i, 3) → pc + 3 = q → Cond.methodLinkNest y.cls i z host ∈ lw_tbl → Cond.static z ∈ lw_ok → Cond.initialized z.cls ∈ lw_ok → pPar z m → as.length = m → st0 = as.reverse ++ st → k + (pBd z).1 ≤ bc → n + (pBd z).2 ≤ bs → (st.map pC).sum ≤ 8 → C z as g σ (fun r g2 σ2 => P q ls (r ++ st) g2 σ2 (k + (pBd z).1) (n + (pBd z).2)) → P pc ls (st0) g σ k n
def ru_calli (C : pH) (y : MethodName) (cc : ByteArray) (bc bs : Nat) (P : pP) : Prop := ∀ (pc q : Nat) (ls : pL) (st : List pV) (g : pG) (σ : pM) (k n : Nat) (i o : Nat) (z : MethodName), decode cc pc = .ok (.invokespecial i, 3) → pc + 3 = q → Cond.methodLink y.cls i z ∈ lw_ok → Cond.instanceMethod z ∈ lw_ok → Cond.initialized z.cls ∈ lw_ok → z.name = "<init>" → pPar z 0 → k + (pBd z).1 ≤ bc → n + (pBd z).2 ≤ bs → (st.map pC).sum ≤ 8 → C z [vR (some o)] g σ (fun r g2 σ2 => P q ls (r ++ st) g2 σ2 (k + (pBd z).1) (n + (pBd z).2)) → P pc ls (vR (some o) :: st) g σ k n
def ru_callin (C : pH) (y : MethodName) (cc : ByteArray) (bc bs : Nat) (P : pP) : Prop := ∀ (pc q : Nat) (ls : pL) (st : List pV) (g : pG) (σ : pM) (k n : Nat) (i o : Nat) (host : String) (z : MethodName), decode cc pc = .ok (.invokespecial i, 3) → pc + 3 = q → Cond.methodLinkNest y.cls i z host ∈ lw_tbl → Cond.instanceMethod z ∈ lw_ok → Cond.initialized z.cls ∈ lw_ok → z.name = "<init>" → pPar z 0 → k + (pBd z).1 ≤ bc → n + (pBd z).2 ≤ bs → (st.map pC).sum ≤ 8 → C z [vR (some o)] g σ (fun r g2 σ2 => P q ls (r ++ st) g2 σ2 (k + (pBd z).1) (n + (pBd z).2)) → P pc ls (vR (some o) :: st) g σ k n
def ru_iret (cc : ByteArray) (rt : Option FieldType) (bc bs : Nat) (Q : pQ) (P : pP) : Prop := ∀ (pc q : Nat) (ls : pL) (st : List pV) (g : pG) (σ : pM) (k n : Nat) (z : Int), decode cc pc = .ok (.ireturn, 1) → k ≤ bc → n ≤ bs → rt = some .int → Q [vI z] g σ → P pc ls [vI z] g σ k n
def ru_zret (cc : ByteArray) (rt : Option FieldType) (bc bs : Nat) (Q : pQ) (P : pP) : Prop := ∀ (pc q : Nat) (ls : pL) (st : List pV) (g : pG) (σ : pM) (k n : Nat) (z : Int), decode cc pc = .ok (.ireturn, 1) → k ≤ bc → n ≤ bs → rt = some .boolean → (z = 0 ∨ z = 1) → Q [vI z] g σ → P pc ls [vI z] g σ k n
def ru_aret (cc : ByteArray) (rt : Option FieldType) (bc bs : Nat) (Q : pQ) (P : pP) : Prop := ∀ (pc q : Nat) (ls : pL) (st : List pV) (g : pG) (σ : pM) (k n : Nat) (r : Option Nat) (C : String), decode cc pc = .ok (.areturn, 1) → k ≤ bc → n ≤ bs → rt = some (.object C) → Q [vR r] g σ → P pc ls [vR r] g σ k n
def ru_vret (cc : ByteArray) (rt : Option FieldType) (bc bs : Nat) (Q : pQ) (P : pP) : Prop := ∀ (pc q : Nat) (ls : pL) (st : List pV) (g : pG) (σ : pM) (k n : Nat), decode cc pc = .ok (.return_, 1) → k ≤ bc → n ≤ bs → rt = none → Q [] g σ → P pc ls [] g σ k n
def ru_sub (P : pP) : Prop := ∀ (pc q : Nat) (ls : pL) (st : List pV) (g : pG) (σ : pM) (k n : Nat) (ls2 : pL), (∀ q ∈ ls2, q ∈ ls) → P pc ls2 st g σ k n → P pc ls st g σ k n
/-- P is closed under every rule -/
def Clo (C : pH) (y : MethodName) (cc : ByteArray) (rt : Option FieldType) (nL bc bs : Nat) (Q : pQ) (P : pP) : Prop := ru_iconst cc P ∧ ru_bipush cc P ∧ ru_sipush cc P ∧ ru_lconst cc P ∧ ru_ldc y cc P ∧ ru_ldcw y cc P ∧ ru_ldc2 y cc P ∧ ru_null cc P ∧ ru_iloadn cc P ∧ ru_iload cc P ∧ ru_aloadn cc P ∧ ru_lloadn cc P ∧ ru_lload cc P ∧ ru_istoren cc nL P ∧ ru_istore cc nL P ∧ ru_astoren cc nL P ∧ ru_iinc cc nL P ∧ ru_dup cc P ∧ ru_dup2 cc P ∧ ru_iadd cc P ∧ ru_isub cc P ∧ ru_imul cc P ∧ ru_ladd cc P ∧ ru_lmul cc P ∧ ru_idiv cc P ∧ ru_irem cc P ∧ ru_lrem cc P ∧ ru_ishl cc P ∧ ru_ishr cc P ∧ ru_iushr cc P ∧ ru_ior cc P ∧ ru_iand cc P ∧ ru_iand31 cc P ∧ ru_land cc P ∧ ru_i2l cc P ∧ ru_l2i cc P ∧ ru_lcmp cc P ∧ ru_goto cc P ∧ ru_icmp cc P ∧ ru_ifc cc P ∧ ru_ifnn cc P ∧ ru_tsw cc P ∧ ru_lsw cc P ∧ ru_getf y cc P ∧ ru_putf y cc P ∧ ru_putr y cc P ∧ ru_iald cc P ∧ ru_iast cc P ∧ ru_zald cc P ∧ ru_zast cc P ∧ ru_aald cc P ∧ ru_aast cc P ∧ ru_alen cc P ∧ ru_new y cc bc bs P ∧ ru_newi cc bc bs P ∧ ru_newz cc bc bs P ∧ ru_newq y cc bc bs P ∧ ru_oini y cc P ∧ ru_callv C y cc bc bs P ∧ ru_calls C y cc bc bs P ∧ ru_callsn C y cc bc bs P ∧ ru_calli C y cc bc bs P ∧ ru_callin C y cc bc bs P ∧ ru_iret cc rt bc bs Q P ∧ ru_zret cc rt bc bs Q P ∧ ru_aret cc rt bc bs Q P ∧ ru_vret cc rt bc bs Q P ∧ ru_sub P
section GO
variable {C : pH} {y : MethodName} {cc : ByteArray} {rt : Option FieldType} {nL bc bs : Nat} {Q : pQ} {P : pP}
theorem Clo.iconst (h : Clo C y cc rt nL bc bs Q P) : ru_iconst cc P := h.1
theorem Clo.bipush (h : Clo C y cc rt nL bc bs Q P) : ru_bipush cc P := h.2.1
theorem Clo.sipush (h : Clo C y cc rt nL bc bs Q P) : ru_sipush cc P := h.2.2.1
theorem Clo.lconst (h : Clo C y cc rt nL bc bs Q P) : ru_lconst cc P := h.2.2.2.1
theorem Clo.ldc (h : Clo C y cc rt nL bc bs Q P) : ru_ldc y cc P := h.2.2.2.2.1
theorem Clo.ldcw (h : Clo C y cc rt nL bc bs Q P) : ru_ldcw y cc P := h.2.2.2.2.2.1
theorem Clo.ldc2 (h : Clo C y cc rt nL bc bs Q P) : ru_ldc2 y cc P := h.2.2.2.2.2.2.1
theorem Clo.null (h : Clo C y cc rt nL bc bs Q P) : ru_null cc P := h.2.2.2.2.2.2.2.1
theorem Clo.iloadn (h : Clo C y cc rt nL bc bs Q P) : ru_iloadn cc P := h.2.2.2.2.2.2.2.2.1
theorem Clo.iload (h : Clo C y cc rt nL bc bs Q P) : ru_iload cc P := h.2.2.2.2.2.2.2.2.2.1
theorem Clo.aloadn (h : Clo C y cc rt nL bc bs Q P) : ru_aloadn cc P := h.2.2.2.2.2.2.2.2.2.2.1
theorem Clo.lloadn (h : Clo C y cc rt nL bc bs Q P) : ru_lloadn cc P := h.2.2.2.2.2.2.2.2.2.2.2.1
theorem Clo.lload (h : Clo C y cc rt nL bc bs Q P) : ru_lload cc P := h.2.2.2.2.2.2.2.2.2.2.2.2.1
theorem Clo.istoren (h : Clo C y cc rt nL bc bs Q P) : ru_istoren cc nL P := h.2.2.2.2.2.2.2.2.2.2.2.2.2.1
theorem Clo.istore (h : Clo C y cc rt nL bc bs Q P) : ru_istore cc nL P := h.2.2.2.2.2.2.2.2.2.2.2.2.2.2.1
theorem Clo.astoren (h : Clo C y cc rt nL bc bs Q P) : ru_astoren cc nL P := h.2.2.2.2.2.2.2.2.2.2.2.2.2.2.2.1
theorem Clo.iinc (h : Clo C y cc rt nL bc bs Q P) : ru_iinc cc nL P := h.2.2.2.2.2.2.2.2.2.2.2.2.2.2.2.2.1
theorem Clo.dup (h : Clo C y cc rt nL bc bs Q P) : ru_dup cc P := h.2.2.2.2.2.2.2.2.2.2.2.2.2.2.2.2.2.1
theorem Clo.dup2 (h : Clo C y cc rt nL bc bs Q P) : ru_dup2 cc P := h.2.2.2.2.2.2.2.2.2.2.2.2.2.2.2.2.2.2.1
theorem Clo.iadd (h : Clo C y cc rt nL bc bs Q P) : ru_iadd cc P := h.2.2.2.2.2.2.2.2.2.2.2.2.2.2.2.2.2.2.2.1
theorem Clo.isub (h : Clo C y cc rt nL bc bs Q P) : ru_isub cc P := h.2.2.2.2.2.2.2.2.2.2.2.2.2.2.2.2.2.2.2.2.1
theorem Clo.imul (h : Clo C y cc rt nL bc bs Q P) : ru_imul cc P := h.2.2.2.2.2.2.2.2.2.2.2.2.2.2.2.2.2.2.2.2.2.1
theorem Clo.ladd (h : Clo C y cc rt nL bc bs Q P) : ru_ladd cc P := h.2.2.2.2.2.2.2.2.2.2.2.2.2.2.2.2.2.2.2.2.2.2.1
theorem Clo.lmul (h : Clo C y cc rt nL bc bs Q P) : ru_lmul cc P := h.2.2.2.2.2.2.2.2.2.2.2.2.2.2.2.2.2.2.2.2.2.2.2.1
theorem Clo.idiv (h : Clo C y cc rt nL bc bs Q P) : ru_idiv cc P := h.2.2.2.2.2.2.2.2.2.2.2.2.2.2.2.2.2.2.2.2.2.2.2.2.1
theorem Clo.irem (h : Clo C y cc rt nL bc bs Q P) : ru_irem cc P := h.2.2.2.2.2.2.2.2.2.2.2.2.2.2.2.2.2.2.2.2.2.2.2.2.2.1
theorem Clo.lrem (h : Clo C y cc rt nL bc bs Q P) : ru_lrem cc P := h.2.2.2.2.2.2.2.2.2.2.2.2.2.2.2.2.2.2.2.2.2.2.2.2.2.2.1
theorem Clo.ishl (h : Clo C y cc rt nL bc bs Q P) : ru_ishl cc P := h.2.2.2.2.2.2.2.2.2.2.2.2.2.2.2.2.2.2.2.2.2.2.2.2.2.2.2.1
theorem Clo.ishr (h : Clo C y cc rt nL bc bs Q P) : ru_ishr cc P := h.2.2.2.2.2.2.2.2.2.2.2.2.2.2.2.2.2.2.2.2.2.2.2.2.2.2.2.2.1
theorem Clo.iushr (h : Clo C y cc rt nL bc bs Q P) : ru_iushr cc P := h.2.2.2.2.2.2.2.2.2.2.2.2.2.2.2.2.2.2.2.2.2.2.2.2.2.2.2.2.2.1
theorem Clo.ior (h : Clo C y cc rt nL bc bs Q P) : ru_ior cc P := h.2.2.2.2.2.2.2.2.2.2.2.2.2.2.2.2.2.2.2.2.2.2.2.2.2.2.2.2.2.2.1
theorem Clo.iand (h : Clo C y cc rt nL bc bs Q P) : ru_iand cc P := h.2.2.2.2.2.2.2.2.2.2.2.2.2.2.2.2.2.2.2.2.2.2.2.2.2.2.2.2.2.2.2.1
theorem Clo.iand31 (h : Clo C y cc rt nL bc bs Q P) : ru_iand31 cc P := h.2.2.2.2.2.2.2.2.2.2.2.2.2.2.2.2.2.2.2.2.2.2.2.2.2.2.2.2.2.2.2.2.1
theorem Clo.land (h : Clo C y cc rt nL bc bs Q P) : ru_land cc P := h.2.2.2.2.2.2.2.2.2.2.2.2.2.2.2.2.2.2.2.2.2.2.2.2.2.2.2.2.2.2.2.2.2.1
theorem Clo.i2l (h : Clo C y cc rt nL bc bs Q P) : ru_i2l cc P := h.2.2.2.2.2.2.2.2.2.2.2.2.2.2.2.2.2.2.2.2.2.2.2.2.2.2.2.2.2.2.2.2.2.2.1
theorem Clo.l2i (h : Clo C y cc rt nL bc bs Q P) : ru_l2i cc P := h.2.2.2.2.2.2.2.2.2.2.2.2.2.2.2.2.2.2.2.2.2.2.2.2.2.2.2.2.2.2.2.2.2.2.2.1
theorem Clo.lcmp (h : Clo C y cc rt nL bc bs Q P) : ru_lcmp cc P := h.2.2.2.2.2.2.2.2.2.2.2.2.2.2.2.2.2.2.2.2.2.2.2.2.2.2.2.2.2.2.2.2.2.2.2.2.1
theorem Clo.goto (h : Clo C y cc rt nL bc bs Q P) : ru_goto cc P := h.2.2.2.2.2.2.2.2.2.2.2.2.2.2.2.2.2.2.2.2.2.2.2.2.2.2.2.2.2.2.2.2.2.2.2.2.2.1
theorem Clo.icmp (h : Clo C y cc rt nL bc bs Q P) : ru_icmp cc P := h.2.2.2.2.2.2.2.2.2.2.2.2.2.2.2.2.2.2.2.2.2.2.2.2.2.2.2.2.2.2.2.2.2.2.2.2.2.2.1
theorem Clo.ifc (h : Clo C y cc rt nL bc bs Q P) : ru_ifc cc P := h.2.2.2.2.2.2.2.2.2.2.2.2.2.2.2.2.2.2.2.2.2.2.2.2.2.2.2.2.2.2.2.2.2.2.2.2.2.2.2.1
theorem Clo.ifnn (h : Clo C y cc rt nL bc bs Q P) : ru_ifnn cc P := h.2.2.2.2.2.2.2.2.2.2.2.2.2.2.2.2.2.2.2.2.2.2.2.2.2.2.2.2.2.2.2.2.2.2.2.2.2.2.2.2.1
theorem Clo.tsw (h : Clo C y cc rt nL bc bs Q P) : ru_tsw cc P := h.2.2.2.2.2.2.2.2.2.2.2.2.2.2.2.2.2.2.2.2.2.2.2.2.2.2.2.2.2.2.2.2.2.2.2.2.2.2.2.2.2.1
theorem Clo.lsw (h : Clo C y cc rt nL bc bs Q P) : ru_lsw cc P := h.2.2.2.2.2.2.2.2.2.2.2.2.2.2.2.2.2.2.2.2.2.2.2.2.2.2.2.2.2.2.2.2.2.2.2.2.2.2.2.2.2.2.1
theorem Clo.getf (h : Clo C y cc rt nL bc bs Q P) : ru_getf y cc P := h.2.2.2.2.2.2.2.2.2.2.2.2.2.2.2.2.2.2.2.2.2.2.2.2.2.2.2.2.2.2.2.2.2.2.2.2.2.2.2.2.2.2.2.1
theorem Clo.putf (h : Clo C y cc rt nL bc bs Q P) : ru_putf y cc P := h.2.2.2.2.2.2.2.2.2.2.2.2.2.2.2.2.2.2.2.2.2.2.2.2.2.2.2.2.2.2.2.2.2.2.2.2.2.2.2.2.2.2.2.2.1
theorem Clo.putr (h : Clo C y cc rt nL bc bs Q P) : ru_putr y cc P := h.2.2.2.2.2.2.2.2.2.2.2.2.2.2.2.2.2.2.2.2.2.2.2.2.2.2.2.2.2.2.2.2.2.2.2.2.2.2.2.2.2.2.2.2.2.1
theorem Clo.iald (h : Clo C y cc rt nL bc bs Q P) : ru_iald cc P := h.2.2.2.2.2.2.2.2.2.2.2.2.2.2.2.2.2.2.2.2.2.2.2.2.2.2.2.2.2.2.2.2.2.2.2.2.2.2.2.2.2.2.2.2.2.2.1
theorem Clo.iast (h : Clo C y cc rt nL bc bs Q P) : ru_iast cc P := h.2.2.2.2.2.2.2.2.2.2.2.2.2.2.2.2.2.2.2.2.2.2.2.2.2.2.2.2.2.2.2.2.2.2.2.2.2.2.2.2.2.2.2.2.2.2.2.1
theorem Clo.zald (h : Clo C y cc rt nL bc bs Q P) : ru_zald cc P := h.2.2.2.2.2.2.2.2.2.2.2.2.2.2.2.2.2.2.2.2.2.2.2.2.2.2.2.2.2.2.2.2.2.2.2.2.2.2.2.2.2.2.2.2.2.2.2.2.1
theorem Clo.zast (h : Clo C y cc rt nL bc bs Q P) : ru_zast cc P := h.2.2.2.2.2.2.2.2.2.2.2.2.2.2.2.2.2.2.2.2.2.2.2.2.2.2.2.2.2.2.2.2.2.2.2.2.2.2.2.2.2.2.2.2.2.2.2.2.2.1
theorem Clo.aald (h : Clo C y cc rt nL bc bs Q P) : ru_aald cc P := h.2.2.2.2.2.2.2.2.2.2.2.2.2.2.2.2.2.2.2.2.2.2.2.2.2.2.2.2.2.2.2.2.2.2.2.2.2.2.2.2.2.2.2.2.2.2.2.2.2.2.1
theorem Clo.aast (h : Clo C y cc rt nL bc bs Q P) : ru_aast cc P := h.2.2.2.2.2.2.2.2.2.2.2.2.2.2.2.2.2.2.2.2.2.2.2.2.2.2.2.2.2.2.2.2.2.2.2.2.2.2.2.2.2.2.2.2.2.2.2.2.2.2.2.1
theorem Clo.alen (h : Clo C y cc rt nL bc bs Q P) : ru_alen cc P := h.2.2.2.2.2.2.2.2.2.2.2.2.2.2.2.2.2.2.2.2.2.2.2.2.2.2.2.2.2.2.2.2.2.2.2.2.2.2.2.2.2.2.2.2.2.2.2.2.2.2.2.2.1
theorem Clo.new (h : Clo C y cc rt nL bc bs Q P) : ru_new y cc bc bs P := h.2.2.2.2.2.2.2.2.2.2.2.2.2.2.2.2.2.2.2.2.2.2.2.2.2.2.2.2.2.2.2.2.2.2.2.2.2.2.2.2.2.2.2.2.2.2.2.2.2.2.2.2.2.1
theorem Clo.newi (h : Clo C y cc rt nL bc bs Q P) : ru_newi cc bc bs P := h.2.2.2.2.2.2.2.2.2.2.2.2.2.2.2.2.2.2.2.2.2.2.2.2.2.2.2.2.2.2.2.2.2.2.2.2.2.2.2.2.2.2.2.2.2.2.2.2.2.2.2.2.2.2.1
theorem Clo.newz (h : Clo C y cc rt nL bc bs Q P) : ru_newz cc bc bs P := h.2.2.2.2.2.2.2.2.2.2.2.2.2.2.2.2.2.2.2.2.2.2.2.2.2.2.2.2.2.2.2.2.2.2.2.2.2.2.2.2.2.2.2.2.2.2.2.2.2.2.2.2.2.2.2.1
theorem Clo.newq (h : Clo C y cc rt nL bc bs Q P) : ru_newq y cc bc bs P := h.2.2.2.2.2.2.2.2.2.2.2.2.2.2.2.2.2.2.2.2.2.2.2.2.2.2.2.2.2.2.2.2.2.2.2.2.2.2.2.2.2.2.2.2.2.2.2.2.2.2.2.2.2.2.2.2.1
theorem Clo.oini (h : Clo C y cc rt nL bc bs Q P) : ru_oini y cc P := h.2.2.2.2.2.2.2.2.2.2.2.2.2.2.2.2.2.2.2.2.2.2.2.2.2.2.2.2.2.2.2.2.2.2.2.2.2.2.2.2.2.2.2.2.2.2.2.2.2.2.2.2.2.2.2.2.2.1
theorem Clo.callv (h : Clo C y cc rt nL bc bs Q P) : ru_callv C y cc bc bs P := h.2.2.2.2.2.2.2.2.2.2.2.2.2.2.2.2.2.2.2.2.2.2.2.2.2.2.2.2.2.2.2.2.2.2.2.2.2.2.2.2.2.2.2.2.2.2.2.2.2.2.2.2.2.2.2.2.2.2.1
theorem Clo.calls (h : Clo C y cc rt nL bc bs Q P) : ru_calls C y cc bc bs P := h.2.2.2.2.2.2.2.2.2.2.2.2.2.2.2.2.2.2.2.2.2.2.2.2.2.2.2.2.2.2.2.2.2.2.2.2.2.2.2.2.2.2.2.2.2.2.2.2.2.2.2.2.2.2.2.2.2.2.2.1
theorem Clo.callsn (h : Clo C y cc rt nL bc bs Q P) : ru_callsn C y cc bc bs P := h.2.2.2.2.2.2.2.2.2.2.2.2.2.2.2.2.2.2.2.2.2.2.2.2.2.2.2.2.2.2.2.2.2.2.2.2.2.2.2.2.2.2.2.2.2.2.2.2.2.2.2.2.2.2.2.2.2.2.2.2.1
theorem Clo.calli (h : Clo C y cc rt nL bc bs Q P) : ru_calli C y cc bc bs P := h.2.2.2.2.2.2.2.2.2.2.2.2.2.2.2.2.2.2.2.2.2.2.2.2.2.2.2.2.2.2.2.2.2.2.2.2.2.2.2.2.2.2.2.2.2.2.2.2.2.2.2.2.2.2.2.2.2.2.2.2.2.1
theorem Clo.callin (h : Clo C y cc rt nL bc bs Q P) : ru_callin C y cc bc bs P := h.2.2.2.2.2.2.2.2.2.2.2.2.2.2.2.2.2.2.2.2.2.2.2.2.2.2.2.2.2.2.2.2.2.2.2.2.2.2.2.2.2.2.2.2.2.2.2.2.2.2.2.2.2.2.2.2.2.2.2.2.2.2.1
theorem Clo.iret (h : Clo C y cc rt nL bc bs Q P) : ru_iret cc rt bc bs Q P := h.2.2.2.2.2.2.2.2.2.2.2.2.2.2.2.2.2.2.2.2.2.2.2.2.2.2.2.2.2.2.2.2.2.2.2.2.2.2.2.2.2.2.2.2.2.2.2.2.2.2.2.2.2.2.2.2.2.2.2.2.2.2.2.1
theorem Clo.zret (h : Clo C y cc rt nL bc bs Q P) : ru_zret cc rt bc bs Q P := h.2.2.2.2.2.2.2.2.2.2.2.2.2.2.2.2.2.2.2.2.2.2.2.2.2.2.2.2.2.2.2.2.2.2.2.2.2.2.2.2.2.2.2.2.2.2.2.2.2.2.2.2.2.2.2.2.2.2.2.2.2.2.2.2.1
theorem Clo.aret (h : Clo C y cc rt nL bc bs Q P) : ru_aret cc rt bc bs Q P := h.2.2.2.2.2.2.2.2.2.2.2.2.2.2.2.2.2.2.2.2.2.2.2.2.2.2.2.2.2.2.2.2.2.2.2.2.2.2.2.2.2.2.2.2.2.2.2.2.2.2.2.2.2.2.2.2.2.2.2.2.2.2.2.2.2.1
theorem Clo.vret (h : Clo C y cc rt nL bc bs Q P) : ru_vret cc rt bc bs Q P := h.2.2.2.2.2.2.2.2.2.2.2.2.2.2.2.2.2.2.2.2.2.2.2.2.2.2.2.2.2.2.2.2.2.2.2.2.2.2.2.2.2.2.2.2.2.2.2.2.2.2.2.2.2.2.2.2.2.2.2.2.2.2.2.2.2.2.1
theorem Clo.sub (h : Clo C y cc rt nL bc bs Q P) : ru_sub P := h.2.2.2.2.2.2.2.2.2.2.2.2.2.2.2.2.2.2.2.2.2.2.2.2.2.2.2.2.2.2.2.2.2.2.2.2.2.2.2.2.2.2.2.2.2.2.2.2.2.2.2.2.2.2.2.2.2.2.2.2.2.2.2.2.2.2.2
end GO
/-- a call, at most d deep: whatever is closed under the rules of its body holds at its entry -/
def pCall : Nat → pH
  | 0 => fun _ _ _ _ _ => False
  | d + 1 => fun z as g σ Q => ∃ (cc : ByteArray) (nL : Nat) (rt : Option FieldType), Cond.code z cc nL rt ∈ lw_ok ∧ plainFor z = true ∧ nL ≤ 40 ∧ (as.map pC).sum ≤ nL ∧ ∀ P : pP, Clo (pCall d) z cc rt nL (pBd z).1 (pBd z).2 Q P → P 0 (pAg 0 as) [] g σ 0 0

