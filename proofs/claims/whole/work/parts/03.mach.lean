/-! A small machine of our own over an abstract heap: typed values, cells, the step of one instruction, a walk by fuel. Own words throughout. -/
abbrev sv : Type := Int32 ⊕ (Int64 ⊕ Option Nat)
abbrev sI (x : Int32) : sv := Sum.inl x
abbrev sJ (x : Int64) : sv := Sum.inr (Sum.inl x)
abbrev sA (r : Option Nat) : sv := Sum.inr (Sum.inr r)
def sval (v : sv) : Value := match v with
  | .inl x => .int x
  | .inr (.inl y) => .long y
  | .inr (.inr r) => va_rf r
def slong (v : sv) : Bool := match v with
  | .inr (.inl _) => true
  | _ => false
/-! arrays: contents by kind; cells; heaps: size, slots made so far, cells by address -/
abbrev Ac : Type := (Nat → Int32) ⊕ ((Nat → Int64) ⊕ (Nat → Option Nat))
def acv (f : Ac) (j : Nat) : Value := match f with
  | .inl g => .int (g j)
  | .inr (.inl g) => .long (g j)
  | .inr (.inr g) => va_rf (g j)
abbrev Cl : Type := (Nat × Nat × Ac) ⊕ (Nat × List sv)
abbrev Hp : Type := Nat × Nat × (Nat → Option Cl)
def hput (σ : Hp) (a : Nat) (c : Cl) : Hp := (σ.1, σ.2.1, va_up σ.2.2 a (some c))
def hnew (σ : Hp) (n : Nat) (c : Cl) : Hp := (σ.1 + 1, σ.2.1 + n, va_up σ.2.2 σ.1 (some c))
def ob (σ : Hp) (r : Option Nat) (ci : Nat) : Option (Nat × List sv) := r.bind fun a => (σ.2.2 a).bind fun c => match c with
  | .inr q => if q.1 = ci then some (a, q.2) else none
  | .inl _ => none
def ar (σ : Hp) (r : Option Nat) : Option (Nat × Nat × Nat × Ac) := r.bind fun a => (σ.2.2 a).bind fun c => match c with
  | .inl q => some (a, q)
  | .inr _ => none
def vI (v : sv) : Option Int32 := match v with
  | .inl x => some x
  | _ => none
def vJ (v : sv) : Option Int64 := match v with
  | .inr (.inl x) => some x
  | _ => none
def vA (v : sv) : Option (Option Nat) := match v with
  | .inr (.inr x) => some x
  | _ => none
def gf (σ : Hp) (r : Option Nat) (ci k : Nat) : Option sv := (ob σ r ci).bind fun q => q.2[k]?
def gfI (σ : Hp) (r : Option Nat) (ci k : Nat) : Option Int32 := (gf σ r ci k).bind vI
def gfJ (σ : Hp) (r : Option Nat) (ci k : Nat) : Option Int64 := (gf σ r ci k).bind vJ
def gfA (σ : Hp) (r : Option Nat) (ci k : Nat) : Option (Option Nat) := (gf σ r ci k).bind vA
def pf (σ : Hp) (r : Option Nat) (ci k : Nat) (v : sv) : Option Hp := (ob σ r ci).bind fun q => some (hput σ q.1 (.inr (ci, q.2.set k v)))
def pfI (σ : Hp) (r : Option Nat) (ci k : Nat) (x : Int32) : Option Hp := pf σ r ci k (sI x)
def pfJ (σ : Hp) (r : Option Nat) (ci k : Nat) (x : Int64) : Option Hp := pf σ r ci k (sJ x)
def pfA (σ : Hp) (r : Option Nat) (ci k : Nat) (x : Option Nat) : Option Hp := pf σ r ci k (sA x)
def pfZ (σ : Hp) (r : Option Nat) (ci k : Nat) (x : Int32) : Option Hp := if x = 0 ∨ x = 1 then pf σ r ci k (sI x) else none
def inb (i : Int32) (n : Nat) : Bool := !(decide (i < 0)) && decide (i.toNatClampNeg < n)
def alI (σ : Hp) (r : Option Nat) (i : Int32) : Option Int32 := (ar σ r).bind fun q => match q.2.2.2 with
  | .inl f => bif (Nat.beq q.2.1 0 || Nat.beq q.2.1 99) && inb i q.2.2.1 then some (f i.toNatClampNeg) else none
  | _ => none
def alZ (σ : Hp) (r : Option Nat) (i : Int32) : Option Int32 := (ar σ r).bind fun q => match q.2.2.2 with
  | .inl f => bif Nat.beq q.2.1 2 && inb i q.2.2.1 then some (f i.toNatClampNeg) else none
  | _ => none
def alJ (σ : Hp) (r : Option Nat) (i : Int32) : Option Int64 := (ar σ r).bind fun q => match q.2.2.2 with
  | .inr (.inl f) => bif Nat.beq q.2.1 1 && inb i q.2.2.1 then some (f i.toNatClampNeg) else none
  | _ => none
def alA (σ : Hp) (r : Option Nat) (i : Int32) : Option (Option Nat) := (ar σ r).bind fun q => match q.2.2.2 with
  | .inr (.inr f) => bif (aec q.2.1).isSome && inb i q.2.2.1 then some (f i.toNatClampNeg) else none
  | _ => none
def alen (σ : Hp) (r : Option Nat) : Option Int32 := (ar σ r).bind fun q => bif Nat.blt q.2.1 6 || Nat.beq q.2.1 99 then some (Int32.ofNat q.2.2.1) else none
def asI (σ : Hp) (r : Option Nat) (i x : Int32) : Option Hp := (ar σ r).bind fun q => match q.2.2.2 with
  | .inl f => bif Nat.beq q.2.1 0 && inb i q.2.2.1 then some (hput σ q.1 (.inl (q.2.1, q.2.2.1, .inl (va_up f i.toNatClampNeg x)))) else none
  | _ => none
def asZ (σ : Hp) (r : Option Nat) (i x : Int32) : Option Hp := (ar σ r).bind fun q => match q.2.2.2 with
  | .inl f => bif Nat.beq q.2.1 2 && inb i q.2.2.1 then (if x = 0 ∨ x = 1 then some (hput σ q.1 (.inl (q.2.1, q.2.2.1, .inl (va_up f i.toNatClampNeg x)))) else none) else none
  | _ => none
def asJ (σ : Hp) (r : Option Nat) (i : Int32) (x : Int64) : Option Hp := (ar σ r).bind fun q => match q.2.2.2 with
  | .inr (.inl f) => bif Nat.beq q.2.1 1 && inb i q.2.2.1 then some (hput σ q.1 (.inl (q.2.1, q.2.2.1, .inr (.inl (va_up f i.toNatClampNeg x))))) else none
  | _ => none
def rok (σ : Hp) (x : Option Nat) (ci : Nat) : Bool := match x with
  | none => true
  | some a => (ob σ (some a) ci).isSome
def asA (σ : Hp) (r : Option Nat) (i : Int32) (x : Option Nat) : Option Hp := (ar σ r).bind fun q => match q.2.2.2 with
  | .inr (.inr f) => (aec q.2.1).bind fun ci => bif inb i q.2.2.1 && rok σ x ci then some (hput σ q.1 (.inl (q.2.1, q.2.2.1, .inr (.inr (va_up f i.toNatClampNeg x))))) else none
  | _ => none
def mkO (σ : Hp) (ci : Nat) : Hp := hnew σ (cdf ci).length (.inr (ci, cdf ci))
def azc (ak : Nat) : Ac := match ak with
  | 0 => .inl fun _ => 0
  | 1 => .inr (.inl fun _ => 0)
  | 2 => .inl fun _ => 0
  | _ => .inr (.inr fun _ => none)
def mkA (σ : Hp) (ak : Nat) (n : Int32) : Option Hp := if 0 ≤ n ∧ n ≤ 1000 then some (hnew σ n.toNatClampNeg (.inl (ak, n.toNatClampNeg, azc ak))) else none
/-! the operand stack and the locals -/
def pI (st : List sv) : Option (Int32 × List sv) := match st with
  | .inl x :: t => some (x, t)
  | _ => none
def pJ (st : List sv) : Option (Int64 × List sv) := match st with
  | .inr (.inl x) :: t => some (x, t)
  | _ => none
def pA (st : List sv) : Option (Option Nat × List sv) := match st with
  | .inr (.inr x) :: t => some (x, t)
  | _ => none
def lkl : List (Nat × sv) → Nat → Option sv
  | [], _ => none
  | q :: t, k => bif Nat.beq q.1 k then some q.2 else lkl t k
def skp (i : Nat) (l : List (Nat × sv)) : List (Nat × sv) := l.filter (fun q => !(q.1 == i) && !(q.1 + 1 == i && slong q.2))
def skp2 (i : Nat) (l : List (Nat × sv)) : List (Nat × sv) := l.filter (fun q => !(q.1 == i) && (!(q.1 == i + 1) && !(q.1 + 1 == i && slong q.2)))
abbrev Ls : Type := List (Nat × sv)
def ldI (l : Ls) (k : Nat) (st : List sv) : Option (Ls × List sv) := (lkl l k).bind fun v => (vI v).bind fun x => some (l, sI x :: st)
def ldJ (l : Ls) (k : Nat) (st : List sv) : Option (Ls × List sv) := (lkl l k).bind fun v => (vJ v).bind fun x => some (l, sJ x :: st)
def ldA (l : Ls) (k : Nat) (st : List sv) : Option (Ls × List sv) := (lkl l k).bind fun v => (vA v).bind fun x => some (l, sA x :: st)
def stI (mx : Nat) (l : Ls) (k : Nat) (st : List sv) : Option (Ls × List sv) := (pI st).bind fun x => bif Nat.blt k mx then some ((k, sI x.1) :: skp k l, x.2) else none
def stJ (mx : Nat) (l : Ls) (k : Nat) (st : List sv) : Option (Ls × List sv) := (pJ st).bind fun x => bif Nat.blt (k + 1) mx then some ((k, sJ x.1) :: skp2 k l, x.2) else none
def stA (mx : Nat) (l : Ls) (k : Nat) (st : List sv) : Option (Ls × List sv) := (pA st).bind fun x => bif Nat.blt k mx then some ((k, sA x.1) :: skp k l, x.2) else none
def inc (mx : Nat) (l : Ls) (k : Nat) (n : Int32) (st : List sv) : Option (Ls × List sv) := (lkl l k).bind fun v => (vI v).bind fun x => bif Nat.blt k mx then some ((k, sI (x + n)) :: skp k l, st) else none
def i2 (l : Ls) (st : List sv) (g : Int32 → Int32 → sv) : Option (Ls × List sv) := (pI st).bind fun y => (pI y.2).bind fun x => some (l, g x.1 y.1 :: x.2)
def j2 (l : Ls) (st : List sv) (g : Int64 → Int64 → sv) : Option (Ls × List sv) := (pJ st).bind fun y => (pJ y.2).bind fun x => some (l, g x.1 y.1 :: x.2)
def ji (l : Ls) (st : List sv) (g : Int64 → Int32 → sv) : Option (Ls × List sv) := (pI st).bind fun y => (pJ y.2).bind fun x => some (l, g x.1 y.1 :: x.2)
def irm (l : Ls) (st : List sv) : Option (Ls × List sv) := (pI st).bind fun y => (pI y.2).bind fun x => if y.1 = 0 then none else some (l, sI (x.1 - x.1 / y.1 * y.1) :: x.2)
def du1 (l : Ls) (st : List sv) : Option (Ls × List sv) := match st with
  | v :: t => bif slong v then none else some (l, v :: v :: t)
  | _ => none
def du2 (l : Ls) (st : List sv) : Option (Ls × List sv) := match st with
  | v :: w :: t => bif slong v || slong w then none else some (l, v :: w :: v :: w :: t)
  | _ => none
def dx1 (l : Ls) (st : List sv) : Option (Ls × List sv) := match st with
  | v :: w :: t => bif slong v || slong w then none else some (l, v :: w :: v :: t)
  | _ => none
def po1 (l : Ls) (st : List sv) : Option (Ls × List sv) := match st with
  | v :: t => bif slong v then none else some (l, t)
  | _ => none
/-- what falls through to the next instruction and leaves the heap alone -/
def pst (o mx : Nat) (i : Instr) (l : Ls) (st : List sv) : Option (Ls × List sv) := match i with
  | .aconst_null => some (l, sA none :: st)
  | .iconst n => some (l, sI (Int32.ofInt n) :: st)
  | .bipush n => some (l, sI (Int8.ofInt n).toInt32 :: st)
  | .sipush n => some (l, sI (Int16.ofInt n).toInt32 :: st)
  | .lconst n => some (l, sJ (Int64.ofNat n.val) :: st)
  | .ldc2_w x => (lng o x).bind fun v => some (l, sJ v :: st)
  | .iload_n n => ldI l n.val st
  | .iload n => ldI l n st
  | .lload_n n => ldJ l n.val st
  | .lload n => ldJ l n st
  | .aload_n n => ldA l n.val st
  | .aload n => ldA l n st
  | .istore_n n => stI mx l n.val st
  | .istore n => stI mx l n st
  | .lstore_n n => stJ mx l n.val st
  | .lstore n => stJ mx l n st
  | .astore_n n => stA mx l n.val st
  | .astore n => stA mx l n st
  | .iinc k n => inc mx l k (Int32.ofInt n) st
  | .iadd => i2 l st fun x y => sI (x + y)
  | .isub => i2 l st fun x y => sI (x - y)
  | .imul => i2 l st fun x y => sI (x * y)
  | .iand => i2 l st fun x y => sI (x &&& y)
  | .ishl => i2 l st fun x y => sI (x <<< (y &&& 31))
  | .ishr => i2 l st fun x y => sI (x >>> (y &&& 31))
  | .irem => irm l st
  | .ladd => j2 l st fun x y => sJ (x + y)
  | .lsub => j2 l st fun x y => sJ (x - y)
  | .land => j2 l st fun x y => sJ (x &&& y)
  | .lor => j2 l st fun x y => sJ (x ||| y)
  | .lxor => j2 l st fun x y => sJ (x ^^^ y)
  | .lshl => ji l st fun x y => sJ (x <<< (y.toInt64 &&& 63))
  | .lshr => ji l st fun x y => sJ (x >>> (y.toInt64 &&& 63))
  | .lushr => ji l st fun x y => sJ (x.toUInt64 >>> (y.toInt64.toUInt64 &&& Int64.toUInt64 63)).toInt64
  | .lcmp => j2 l st fun x y => sI (lg_cmp x y)
  | .l2i => (pJ st).bind fun x => some (l, sI x.1.toInt32 :: x.2)
  | .i2l => (pI st).bind fun x => some (l, sJ x.1.toInt64 :: x.2)
  | .dup => du1 l st
  | .dup2 => du2 l st
  | .dup_x1 => dx1 l st
  | .pop => po1 l st
  | _ => none
/-- a branch: its condition, and the stack behind it -/
abbrev Cd : Type := (p : Prop) ×' Decidable p
def bi1 (st : List sv) (g : Int32 → Cd) : Option (Cd × List sv) := (pI st).bind fun x => some (g x.1, x.2)
def bi2 (st : List sv) (g : Int32 → Int32 → Cd) : Option (Cd × List sv) := (pI st).bind fun y => (pI y.2).bind fun x => some (g x.1 y.1, x.2)
def ba1 (st : List sv) (g : Option Nat → Cd) : Option (Cd × List sv) := (pA st).bind fun x => some (g x.1, x.2)
def ba2 (st : List sv) (g : Option Nat → Option Nat → Cd) : Option (Cd × List sv) := (pA st).bind fun y => (pA y.2).bind fun x => some (g x.1 y.1, x.2)
def brc (i : Instr) (st : List sv) : Option (Cd × List sv) := match i with
  | .ifCond .eq _ => bi1 st fun x => ⟨x = 0, inferInstance⟩
  | .ifCond .ne _ => bi1 st fun x => ⟨¬ x = 0, inferInstance⟩
  | .ifCond .lt _ => bi1 st fun x => ⟨x < 0, inferInstance⟩
  | .ifCond .ge _ => bi1 st fun x => ⟨0 ≤ x, inferInstance⟩
  | .ifCond .gt _ => bi1 st fun x => ⟨0 < x, inferInstance⟩
  | .ifCond .le _ => bi1 st fun x => ⟨x ≤ 0, inferInstance⟩
  | .if_icmp .eq _ => bi2 st fun x y => ⟨x = y, inferInstance⟩
  | .if_icmp .ne _ => bi2 st fun x y => ⟨¬ x = y, inferInstance⟩
  | .if_icmp .lt _ => bi2 st fun x y => ⟨x < y, inferInstance⟩
  | .if_icmp .ge _ => bi2 st fun x y => ⟨y ≤ x, inferInstance⟩
  | .if_icmp .gt _ => bi2 st fun x y => ⟨y < x, inferInstance⟩
  | .if_icmp .le _ => bi2 st fun x y => ⟨x ≤ y, inferInstance⟩
  | .if_acmp .eq _ => ba2 st fun x y => ⟨x = y, inferInstance⟩
  | .if_acmp .ne _ => ba2 st fun x y => ⟨¬ x = y, inferInstance⟩
  | .ifnull _ => ba1 st fun x => ⟨x = none, inferInstance⟩
  | .ifnonnull _ => ba1 st fun x => ⟨¬ x = none, inferInstance⟩
  | _ => none
/-! frames of our machine: method, place, locals, stack, heap; its answers -/
abbrev Fr : Type := Mt × Nat × Ls × List sv × Hp
abbrev Rs : Type := Option sv × Hp
def pck (l : Ls) : List Nat → Ls
  | [] => []
  | k :: ks => match lkl l k with
    | some v => (k, v) :: pck l ks
    | none => pck l ks
def msk (l : Ls) (o : Option (List Nat)) : Ls := match o with
  | none => l
  | some ks => pck l ks
def gto (m : Mt) (pc : Nat) (l : Ls) (st : List sv) (σ : Hp) : Fr := (m, pc, msk l (mmsk m pc), st, σ)
def sargs : Nat → List sv → Ls
  | _, [] => []
  | k, v :: t => (k, v) :: sargs (bif slong v then k + 2 else k + 1) t
def ent (M : Nat) (a : List sv) (σ : Hp) : Fr := (mtd M, 0, sargs 0 a, [], σ)
def popn : Nat → List sv → List sv → Option (List sv × List sv)
  | 0, acc, st => some (acc, st)
  | n + 1, acc, v :: st => popn n (v :: acc) st
  | _ + 1, _, [] => none
def wsum : List sv → Nat
  | [] => 0
  | v :: t => (bif slong v then 2 else 1) + wsum t
def rI (v : Option sv) : Option Int32 := match v with
  | some (.inl x) => some x
  | _ => none
def rJ (v : Option sv) : Option Int64 := match v with
  | some (.inr (.inl x)) => some x
  | _ => none
def rA (v : Option sv) : Option (Option Nat) := match v with
  | some (.inr (.inr x)) => some x
  | _ => none
def rV (v : Option sv) : Option Unit := match v with
  | none => some ()
  | _ => none
/-- calls: the answer by its kind -/
def cI (k : Fr → Option Rs) (M : Nat) (a : List sv) (σ : Hp) : Option (Int32 × Hp) := (k (ent M a σ)).bind fun r => (rI r.1).bind fun v => some (v, r.2)
def cJ (k : Fr → Option Rs) (M : Nat) (a : List sv) (σ : Hp) : Option (Int64 × Hp) := (k (ent M a σ)).bind fun r => (rJ r.1).bind fun v => some (v, r.2)
def cA (k : Fr → Option Rs) (M : Nat) (a : List sv) (σ : Hp) : Option (Option Nat × Hp) := (k (ent M a σ)).bind fun r => (rA r.1).bind fun v => some (v, r.2)
def cV (k : Fr → Option Rs) (M : Nat) (a : List sv) (σ : Hp) : Option Hp := (k (ent M a σ)).bind fun r => (rV r.1).bind fun _ => some r.2
def cgo (k : Fr → Option Rs) (m : Mt) (pc : Nat) (l : Ls) (M : Nat) (a rest : List sv) (σ : Hp) : Option Rs := match mret (mtd M) with
  | 0 => (cV k M a σ).bind fun q => k (gto m (pc + 3) l rest q)
  | 1 => (cI k M a σ).bind fun q => k (gto m (pc + 3) l (sI q.1 :: rest) q.2)
  | 2 => (cJ k M a σ).bind fun q => k (gto m (pc + 3) l (sJ q.1 :: rest) q.2)
  | 3 => (cA k M a σ).bind fun q => k (gto m (pc + 3) l (sA q.1 :: rest) q.2)
  | 4 => (cI k M a σ).bind fun q => k (gto m (pc + 3) l (sI q.1 :: rest) q.2)
  | _ => none
/-- there is room for the callee below the caller, and the caller's other operands are few -/
def rmk (m m' : Mt) (a rest : List sv) : Bool := Nat.ble (mfrm m' + 1) (mfrm m) && (Nat.ble (19 + mmax m' + mwds m') (mwds m) && (Nat.ble (wsum rest) 8 && Nat.ble (wsum a) (mmax m')))
/-- the receiver is there, and of its class -/
def rcv (σ : Hp) (a : List sv) (ci : Nat) : Option Nat := match a with
  | .inr (.inr r) :: _ => (ob σ r ci).bind fun q => some q.1
  | _ => none
def rz (v : Int32) (σ : Hp) : Option Rs := if v = 0 ∨ v = 1 then some (some (sI v), σ) else none
def rtI (m : Mt) (v : Int32) (σ : Hp) : Option Rs := match mret m with
  | 1 => some (some (sI v), σ)
  | 4 => rz v σ
  | _ => none
def nlq (st : List sv) : Bool := match st with
  | [] => true
  | _ => false
def swt (k : Nat → Option Rs) (x : Int32) : List (Int32 × Nat) → Nat → Option Rs
  | [], d => k d
  | q :: t, d => if x = q.1 then k q.2 else swt k x t d
def swl (pc : Nat) : Int → List Int → List (Int32 × Nat)
  | _, [] => []
  | lo, o :: t => (Int32.ofInt lo, ((pc : Int) + o).toNat) :: swl pc (lo + 1) t
def rdf (k : Fr → Option Rs) (m : Mt) (pc : Nat) (l : Ls) (st : List sv) (σ : Hp) (r : Option Nat) (e : Fe) : Option Rs := match e.2.2.1 with
  | 0 => (gfI σ r e.1 e.2.1).bind fun v => k (gto m (pc + 3) l (sI v :: st) σ)
  | 1 => (gfI σ r e.1 e.2.1).bind fun v => k (gto m (pc + 3) l (sI v :: st) σ)
  | 2 => (gfJ σ r e.1 e.2.1).bind fun v => k (gto m (pc + 3) l (sJ v :: st) σ)
  | 3 => (gfA σ r e.1 e.2.1).bind fun v => k (gto m (pc + 3) l (sA v :: st) σ)
  | _ => none
def wrf (k : Fr → Option Rs) (m : Mt) (pc : Nat) (l : Ls) (st : List sv) (σ : Hp) (e : Fe) : Option Rs := match e.2.2.1 with
  | 0 => (pI st).bind fun v => (pA v.2).bind fun r => (pfI σ r.1 e.1 e.2.1 v.1).bind fun σ' => k (gto m (pc + 3) l r.2 σ')
  | 1 => (pI st).bind fun v => (pA v.2).bind fun r => (pfZ σ r.1 e.1 e.2.1 v.1).bind fun σ' => k (gto m (pc + 3) l r.2 σ')
  | 2 => (pJ st).bind fun v => (pA v.2).bind fun r => (pfJ σ r.1 e.1 e.2.1 v.1).bind fun σ' => k (gto m (pc + 3) l r.2 σ')
  | 3 => (pA st).bind fun v => (pA v.2).bind fun r => (pfA σ r.1 e.1 e.2.1 v.1).bind fun σ' => k (gto m (pc + 3) l r.2 σ')
  | _ => none
def akt (t : ArrayType) : Option Nat := match t with
  | .int => some 0
  | .long => some 1
  | .boolean => some 2
  | _ => none
/-- what reads or writes the heap, calls, jumps, ends -/
def xhp (k : Fr → Option Rs) (m : Mt) (pc : Nat) (l : Ls) (st : List sv) (σ : Hp) (i : Instr) (tgt : Nat) : Option Rs := match i with
  | .goto _ => k (gto m tgt l st σ)
  | .tableswitch d lo _ offs => (pI st).bind fun x => swt (fun t => k (gto m t l x.2 σ)) x.1 (swl pc lo offs.toList) ((pc : Int) + d).toNat
  | .getfield x => (pA st).bind fun r => (fle (mown m) x).bind fun e => rdf k m pc l r.2 σ r.1 e
  | .putfield x => (fle (mown m) x).bind fun e => bif !e.2.2.2.1 || (mini m && Nat.beq (mown m) e.1) then wrf k m pc l st σ e else none
  | .iaload => (pI st).bind fun j => (pA j.2).bind fun r => (alI σ r.1 j.1).bind fun v => k (gto m (pc + 1) l (sI v :: r.2) σ)
  | .baload => (pI st).bind fun j => (pA j.2).bind fun r => (alZ σ r.1 j.1).bind fun v => k (gto m (pc + 1) l (sI v :: r.2) σ)
  | .laload => (pI st).bind fun j => (pA j.2).bind fun r => (alJ σ r.1 j.1).bind fun v => k (gto m (pc + 1) l (sJ v :: r.2) σ)
  | .aaload => (pI st).bind fun j => (pA j.2).bind fun r => (alA σ r.1 j.1).bind fun v => k (gto m (pc + 1) l (sA v :: r.2) σ)
  | .arraylength => (pA st).bind fun r => (alen σ r.1).bind fun v => k (gto m (pc + 1) l (sI v :: r.2) σ)
  | .iastore => (pI st).bind fun v => (pI v.2).bind fun j => (pA j.2).bind fun r => (asI σ r.1 j.1 v.1).bind fun σ' => k (gto m (pc + 1) l r.2 σ')
  | .bastore => (pI st).bind fun v => (pI v.2).bind fun j => (pA j.2).bind fun r => (asZ σ r.1 j.1 v.1).bind fun σ' => k (gto m (pc + 1) l r.2 σ')
  | .lastore => (pJ st).bind fun v => (pI v.2).bind fun j => (pA j.2).bind fun r => (asJ σ r.1 j.1 v.1).bind fun σ' => k (gto m (pc + 1) l r.2 σ')
  | .aastore => (pA st).bind fun v => (pI v.2).bind fun j => (pA j.2).bind fun r => (asA σ r.1 j.1 v.1).bind fun σ' => k (gto m (pc + 1) l r.2 σ')
  | .new x => (nwc (mown m) x).bind fun ci => k (gto m (pc + 3) l (sA (some σ.1) :: st) (mkO σ ci))
  | .newarray t => (pI st).bind fun n => (akt t).bind fun ak => (mkA σ ak n.1).bind fun σ' => k (gto m (pc + 2) l (sA (some σ.1) :: n.2) σ')
  | .anewarray x => (pI st).bind fun n => (anw (mown m) x).bind fun ak => (mkA σ ak n.1).bind fun σ' => k (gto m (pc + 3) l (sA (some σ.1) :: n.2) σ')
  | .invokestatic x => (mts (mown m) x).bind fun M => (popn (marg (mtd M)) [] st).bind fun q => bif rmk m (mtd M) q.1 q.2 then cgo k m pc l M q.1 q.2 σ else none
  | .invokevirtual x => (mtv (mown m) x).bind fun M => (popn (marg (mtd M) + 1) [] st).bind fun q => (rcv σ q.1 (mown (mtd M))).bind fun _ => bif rmk m (mtd M) q.1 q.2 then cgo k m pc l M q.1 q.2 σ else none
  | .invokespecial x => match mti (mown m) x with
    | some M => (popn (marg (mtd M) + 1) [] st).bind fun q => (rcv σ q.1 (mown (mtd M))).bind fun _ => bif rmk m (mtd M) q.1 q.2 then cgo k m pc l M q.1 q.2 σ else none
    | none => (pA st).bind fun r => r.1.bind fun _ => bif obi (mown m) x && (Nat.ble 1 (mfrm m) && (Nat.ble 20 (mwds m) && Nat.ble (wsum r.2) 8)) then k (gto m (pc + 3) l r.2 σ) else none
  | .ireturn => (pI st).bind fun v => bif nlq v.2 then rtI m v.1 σ else none
  | .lreturn => (pJ st).bind fun v => bif nlq v.2 && Nat.beq (mret m) 2 then some (some (sJ v.1), σ) else none
  | .areturn => (pA st).bind fun v => bif nlq v.2 && Nat.beq (mret m) 3 then some (some (sA v.1), σ) else none
  | .return_ => bif nlq st && Nat.beq (mret m) 0 then some (none, σ) else none
  | _ => none
def exe (k : Fr → Option Rs) (m : Mt) (pc : Nat) (l : Ls) (st : List sv) (σ : Hp) (i : Instr) (len tgt : Nat) : Option Rs := match pst (mown m) (mmax m) i l st with
  | some q => k (gto m (pc + len) q.1 q.2 σ)
  | none => match brc i st with
    | some q => @ite _ q.1.1 q.1.2 (k (gto m tgt l q.2 σ)) (k (gto m (pc + len) l q.2 σ))
    | none => xhp k m pc l st σ i tgt
def stp (k : Fr → Option Rs) (f : Fr) : Option Rs := match mcod f.1 f.2.1 with
  | some q => exe k f.1 f.2.1 f.2.2.1 f.2.2.2.1 f.2.2.2.2 q.1 q.2.1 q.2.2
  | none => none
def rnn : Nat → Fr → Option Rs
  | 0, _ => none
  | n + 1, f => stp (rnn n) f
