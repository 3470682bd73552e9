/-! The tables' facts, as the walk uses them; then the walk: one step of our machine is a walk of the real one. -/
def gws : List Cond := lw_tbl.filter goodWord
theorem gws_good {w : Cond} (h : w ∈ gws) : w ∈ gws ∧ ((w.onTables && w.keeps) = true ∨ ∃ ty, w = .arrayClass ty) := ⟨h, good_of_word (List.mem_filter.mp h).2⟩
theorem gws_of {w : Cond} (h : w ∈ lw_tbl) (g : goodWord w = true) : w ∈ gws := List.mem_filter.mpr ⟨h, g⟩
def tys (dA : Nat → ClassId) : List (ClassId × FieldType) := (List.range 6).map fun k => (dA k, aty k)
theorem tys_at (dA : Nat → ClassId) {k : Nat} (h : k < 6) : (tys dA)[k]? = some (dA k, aty k) := by
  unfold tys
  rw [List.getElem?_map, List.getElem?_range h]; rfl
def kty (kd : Nat) (ty : FieldType) : Prop := (kd = 0 ∧ ty = .int) ∨ (kd = 1 ∧ ty = .boolean) ∨ (kd = 2 ∧ ty = .long) ∨ (kd = 3 ∧ ((∃ C, ty = .object C) ∨ ∃ t, ty = .array t))
def FeOk (o x : Nat) (e : Fe) : Prop := ∃ r : vw_C, scl[e.1]? = some r ∧ e.2.1 < r.2.2 ∧ (r.2.1 e.2.1).1 = r.1 ∧ (e.2.2.2.1 = true → r.1 = cnm e.1) ∧ Cond.fieldLink (cnm o) x (r.2.1 e.2.1).1 (r.2.1 e.2.1).2.1 (r.2.1 e.2.1).2.2.1 ∈ gws ∧ (r.2.1 e.2.1).2.2.2 = e.2.2.2.1 ∧ ∃ ty, parseFieldDescriptor (r.2.1 e.2.1).2.2.1 = some ty ∧ kty e.2.2.1 ty
def ClOk (ci : Nat) (r : vw_C) : Prop := (∀ w ∈ u_ws r.1 r.2.1 r.2.2, w ∈ gws) ∧ (∃ ty : Nat → FieldType, (∀ k, k < r.2.2 → parseFieldDescriptor (r.2.1 k).2.2.1 = some (ty k)) ∧ ∀ j, j < r.2.2 → defaultValue (ty j) = vp_V ((cdf ci).map sval) j) ∧ (∀ a, a < r.2.2 → ∀ b, b < r.2.2 → a ≠ b → (r.2.1 a).2.1 ≠ (r.2.1 b).2.1) ∧ (cdf ci).length = r.2.2 ∧ Cond.instantiable r.1 r.2.2 ∈ gws ∧ Cond.initialized r.1 ∈ gws
def iln (i : Instr) : Nat := match i with
  | .bipush _ => 2
  | .iload _ => 2
  | .lload _ => 2
  | .aload _ => 2
  | .istore _ => 2
  | .lstore _ => 2
  | .astore _ => 2
  | .newarray _ => 2
  | .sipush _ => 3
  | .iinc _ _ => 3
  | .ldc2_w _ => 3
  | .getfield _ => 3
  | .putfield _ => 3
  | .invokestatic _ => 3
  | .invokevirtual _ => 3
  | .invokespecial _ => 3
  | .new _ => 3
  | .anewarray _ => 3
  | _ => 1
def jtg (i : Instr) : Option Int := match i with
  | .ifCond _ o => some o
  | .if_icmp _ o => some o
  | .if_acmp _ o => some o
  | .ifnull o => some o
  | .ifnonnull o => some o
  | .goto o => some o
  | _ => none
def swo (pc : Nat) (i : Instr) : Bool := match i with
  | .tableswitch d lo hi offs => decide (hi + 1 = lo + offs.toList.length) && (decide (0 ≤ (pc : Int) + d) && (offs.toList.all (fun o => decide (0 ≤ (pc : Int) + o)) && (decide (-1000 ≤ lo) && decide (hi ≤ 1000))))
  | _ => false
def isw (i : Instr) : Bool := match i with
  | .tableswitch _ _ _ _ => true
  | _ => false
/-- an entry of a method's code fits: its length, its target -/
def ilo (pc : Nat) (q : Instr × Nat × Nat) : Bool := match jtg q.1 with
  | some o => Nat.beq q.2.1 3 && decide ((pc : Int) + o = (q.2.2 : Int))
  | none => bif isw q.1 then swo pc q.1 else Nat.beq q.2.1 (iln q.1)
def rtk (n : Nat) (t : Option FieldType) : Prop := (n = 0 ∧ t = none) ∨ (n = 1 ∧ t = some .int) ∨ (n = 2 ∧ t = some .long) ∨ (n = 3 ∧ ((∃ C, t = some (.object C)) ∨ ∃ u, t = some (.array u))) ∨ (n = 4 ∧ t = some .boolean)
def CdOk (M : Nat) : Prop := ∀ pc q, mcod (mtd M) pc = some q → decode (byt M) pc = .ok (q.1, q.2.1) ∧ ilo pc q = true
def MtOk (M : Nat) : Prop := mnum (mtd M) = M ∧ Cond.code (ynm M) (byt M) (mmax (mtd M)) (rty M) ∈ gws ∧ plainName (ynm M).cls = true ∧ (ynm M).cls = cnm (mown (mtd M)) ∧ ((ynm M).cls ≠ "java/lang/invoke/MethodHandle" ∧ (ynm M).cls ≠ "java/lang/invoke/VarHandle" ∧ (parseMethodDescriptor (ynm M).desc).map (fun d => d.parameters.length) = some (marg (mtd M))) ∧ rtk (mret (mtd M)) (rty M) ∧ Cond.initialized (ynm M).cls ∈ gws ∧ (mini (mtd M) = true → (ynm M).name = "<init>") ∧ CdOk M
def nlw (q : String × Nat × MethodName × String) : Cond := .methodLinkNest q.1 q.2.1 q.2.2.1 q.2.2.2
/-- all that the walk asks of the tables -/
def TbOk : Prop :=
  (∀ o x e, fle o x = some e → FeOk o x e) ∧ (∀ ci r, scl[ci]? = some r → ClOk ci r) ∧
  (∀ o x M, mts o x = some M → MtOk M ∧ Cond.static (ynm M) ∈ gws ∧ (Cond.methodLink (cnm o) x (ynm M) ∈ gws ∨ ∃ q ∈ nwl, q.1 = cnm o ∧ q.2.1 = x ∧ q.2.2.1 = ynm M)) ∧
  (∀ o x M, mtv o x = some M → MtOk M ∧ Cond.methodLink (cnm o) x (ynm M) ∈ gws ∧ Cond.instanceMethod (ynm M) ∈ gws ∧ Cond.selects (ynm M).cls (ynm M) (ynm M) ∈ gws ∧ ∃ r, scl[mown (mtd M)]? = some r ∧ r.1 = (ynm M).cls) ∧
  (∀ o x M, mti o x = some M → MtOk M ∧ (Cond.methodLink (cnm o) x (ynm M) ∈ gws ∨ ∃ q ∈ nwl, q.1 = cnm o ∧ q.2.1 = x ∧ q.2.2.1 = ynm M) ∧ Cond.instanceMethod (ynm M) ∈ gws ∧ (ynm M).name = "<init>" ∧ mret (mtd M) = 0) ∧
  (∀ o x, obi o x = true → Cond.methodLink (cnm o) x Lib.objectInit ∈ gws ∧ Cond.instanceMethod Lib.objectInit ∈ gws ∧ Cond.code Lib.objectInit ⟨#[0xb1]⟩ 1 none ∈ gws) ∧
  (∀ o x ci, nwc o x = some ci → ∃ r, scl[ci]? = some r ∧ Cond.classLink (cnm o) x r.1 ∈ gws) ∧
  (∀ o x ak, anw o x = some ak → ak < 6 ∧ 3 ≤ ak ∧ ∃ C, aty ak = .object C ∧ Cond.classLink (cnm o) x C ∈ gws ∧ C ∈ ovs) ∧
  (∀ o x v, lng o x = some v → Cond.constantLong (cnm o) x v ∈ gws) ∧
  (∀ t ak, akt t = some ak → ak < 3 ∧ aty ak = newarray.typeOf t ∧ Cond.arrayClass (newarray.typeOf t) ∈ gws) ∧
  (∀ ak ci, aec ak = some ci → ak < 6 ∧ 3 ≤ ak ∧ ∃ C r, aty ak = .object C ∧ scl[ci]? = some r ∧ r.1 = C)
def Kx (dA : Nat → ClassId) (D : va_G) (U : State) : Prop := va_K D scl (tys dA) U ∧ (∀ q ∈ nwl, va_Nw (nlw q) U) ∧ ∀ C ∈ ovs, va_AO C U
theorem Kx.warm {dA : Nat → ClassId} {D : va_G} {s U : State} (hW : s.WarmedH U.vm) (h : Kx dA D s) : Kx dA D U :=
  ⟨va_K.moved hW.alike h.1, fun q hq => va_Nw.warmM hW (h.2.1 q hq), fun C hC => va_AO.moved hW.alike (h.2.2 C hC)⟩
theorem Kx.same {dA : Nat → ClassId} {D : va_G} {s U : State} (hv : s.vm = U.vm) (h : Kx dA D s) : Kx dA D U :=
  ⟨va_K.moved (by rw [hv]; exact Vm.Alike.refl _) h.1, fun q hq => va_Nw.same rfl hv (h.2.1 q hq), fun C hC => va_AO.moved (by rw [hv]; exact Vm.Alike.refl _) (h.2.2 C hC)⟩
/-- what stands still in a walk of method mt -/
def Cx (dA : Nat → ClassId) (D : va_G) (p : Program) (R : Room) (s : State) (m : MethodId) (args : Array Value) (meth : Method) (c : Code) (mt : Mt) : Prop :=
  p.tables.exec = Jvm.exec ∧ c.code = byt (mnum mt) ∧ c.maxLocals = mmax mt ∧ meth.sig.returnType = rty (mnum mt) ∧ meth.locks = false ∧ s.vm.findClass (cnm (mown mt)) = some m.cls ∧ (mini mt = true → meth.name = "<init>") ∧ (∀ w ∈ gws, w.before args s = true) ∧ Kx dA D s ∧ mfrm mt ≤ R.frames ∧ mwds mt ≤ R.locals
section SIM
variable {p : Program} {l : Launch} {e : Env} {R : Room} {s : State} {m : MethodId} {args : Array Value} {below : List Frame} {meth : Method} {c : Code} {Q : State → Prop} {dA : Nat → ClassId} {D : va_G} {σ0 : Hp} {r : Rs} {k : Fr → Option Rs} {mt : Mt}
/-- the walk goes through from here -/
def WW (p : Program) (l : Launch) (e : Env) (R : Room) (s : State) (m : MethodId) (args : Array Value) (below : List Frame) (meth : Method) (c : Code) (Q : State → Prop) (dA : Nat → ClassId) (D : va_G) (σ0 : Hp) (mt : Mt) (pc : Nat) (lo : Ls) (st : List sv) (σ : Hp) : Prop :=
  ∀ (H : Heap) (locs : List Loc) (cells slots : Nat) (ls : Array Slot), sh ls (mmax mt) lo → Iv dA D s σ0 σ H locs cells slots → W p l e R s m args below meth c H locs cells slots Q (F0 m pc ls (st.map sval))
set_option maxHeartbeats 4000000 in
theorem pst_sim (ok : TbOk) (hC : Cx dA D p R s m args meth c mt) {pc : Nat} {i : Instr} {lo : Ls} {st : List sv} {σ : Hp} {q : Ls × List sv} (hd : decode (byt (mnum mt)) pc = .ok (i, iln i)) (h : pst (mown mt) (mmax mt) i lo st = some q)
    (kk : WW p l e R s m args below meth c Q dA D σ0 mt (pc + iln i) q.1 q.2 σ) : WW p l e R s m args below meth c Q dA D σ0 mt pc lo st σ := by
  obtain ⟨hx, hb, -, -, -, hown, -, hts, -, -⟩ := hC
  intro H locs cells slots ls hl hI
  unfold pst at h
  split at h
  · cases h; exact lv_null hx hb hd (kk _ _ _ _ _ hl hI)
  · cases h; exact lv_iconst hx hb hd rfl (kk _ _ _ _ _ hl hI)
  · cases h; exact lv_bipush hx hb hd rfl (kk _ _ _ _ _ hl hI)
  · cases h; exact lv_sipush hx hb hd rfl (kk _ _ _ _ _ hl hI)
  · cases h; exact lv_lconst hx hb hd rfl (kk _ _ _ _ _ hl hI)
  · replace h := Option.bind_eq_some_iff.mp h
    obtain ⟨v, hv, h⟩ := h
    cases h
    exact lv_ldc2 hx hb hown (hts _ (ok.2.2.2.2.2.2.2.2.1 _ _ _ hv)) hd (kk _ _ _ _ _ hl hI)
  · replace h := Option.bind_eq_some_iff.mp h
    obtain ⟨v, hv, h⟩ := h
    replace h := Option.bind_eq_some_iff.mp h
    obtain ⟨x, hx1, h⟩ := h
    cases vI_inv hx1
    cases h
    exact lv_iload_n hx hb hd rfl (sh_at hl hv) (kk _ _ _ _ _ hl hI)
  · replace h := Option.bind_eq_some_iff.mp h
    obtain ⟨v, hv, h⟩ := h
    replace h := Option.bind_eq_some_iff.mp h
    obtain ⟨x, hx1, h⟩ := h
    cases vI_inv hx1
    cases h
    exact lv_iload hx hb hd (sh_at hl hv) (kk _ _ _ _ _ hl hI)
  · replace h := Option.bind_eq_some_iff.mp h
    obtain ⟨v, hv, h⟩ := h
    replace h := Option.bind_eq_some_iff.mp h
    obtain ⟨x, hx1, h⟩ := h
    cases vJ_inv hx1
    cases h
    exact lv_lload_n hx hb hd rfl (sh_at hl hv) (kk _ _ _ _ _ hl hI)
  · replace h := Option.bind_eq_some_iff.mp h
    obtain ⟨v, hv, h⟩ := h
    replace h := Option.bind_eq_some_iff.mp h
    obtain ⟨x, hx1, h⟩ := h
    cases vJ_inv hx1
    cases h
    exact lv_lload hx hb hd (sh_at hl hv) (kk _ _ _ _ _ hl hI)
  · replace h := Option.bind_eq_some_iff.mp h
    obtain ⟨v, hv, h⟩ := h
    replace h := Option.bind_eq_some_iff.mp h
    obtain ⟨x, hx1, h⟩ := h
    cases vA_inv hx1
    cases h
    cases x with
    | none => exact lv_aload_nN hx hb hd rfl (sh_at hl hv) (kk _ _ _ _ _ hl hI)
    | some a => exact lv_aload_n hx hb hd rfl (sh_at hl hv) (kk _ _ _ _ _ hl hI)
  · replace h := Option.bind_eq_some_iff.mp h
    obtain ⟨v, hv, h⟩ := h
    replace h := Option.bind_eq_some_iff.mp h
    obtain ⟨x, hx1, h⟩ := h
    cases vA_inv hx1
    cases h
    cases x with
    | none => exact lv_aloadN hx hb hd (sh_at hl hv) (kk _ _ _ _ _ hl hI)
    | some a => exact lv_aload hx hb hd (sh_at hl hv) (kk _ _ _ _ _ hl hI)
  · replace h := Option.bind_eq_some_iff.mp h
    obtain ⟨x, hx1, h⟩ := h
    replace h := cond_some h
    obtain ⟨hlt, h⟩ := h
    cases h
    rw [pI_inv hx1]
    exact lv_istore_n hx hb hd rfl hl (blt_lt hlt) (congrArg _ (skp_map _ _)) (fun ls' hl' => kk _ _ _ _ _ hl' hI)
  · replace h := Option.bind_eq_some_iff.mp h
    obtain ⟨x, hx1, h⟩ := h
    replace h := cond_some h
    obtain ⟨hlt, h⟩ := h
    cases h
    rw [pI_inv hx1]
    exact lv_istore hx hb hd hl (blt_lt hlt) (congrArg _ (skp_map _ _)) (fun ls' hl' => kk _ _ _ _ _ hl' hI)
  · replace h := Option.bind_eq_some_iff.mp h
    obtain ⟨x, hx1, h⟩ := h
    replace h := cond_some h
    obtain ⟨hlt, h⟩ := h
    cases h
    rw [pJ_inv hx1]
    exact lv_lstore_n hx hb hd rfl hl (blt_lt hlt) (congrArg _ (skp2_map _ _)) (fun ls' hl' => kk _ _ _ _ _ hl' hI)
  · replace h := Option.bind_eq_some_iff.mp h
    obtain ⟨x, hx1, h⟩ := h
    replace h := cond_some h
    obtain ⟨hlt, h⟩ := h
    cases h
    rw [pJ_inv hx1]
    exact lv_lstore hx hb hd hl (blt_lt hlt) (congrArg _ (skp2_map _ _)) (fun ls' hl' => kk _ _ _ _ _ hl' hI)
  · replace h := Option.bind_eq_some_iff.mp h
    obtain ⟨⟨x, t⟩, hx1, h⟩ := h
    replace h := cond_some h
    obtain ⟨hlt, h⟩ := h
    cases h
    rw [pA_inv hx1]
    cases x with
    | none => exact lv_astore_nN hx hb hd rfl hl (blt_lt hlt) (congrArg _ (skp_map _ _)) (fun ls' hl' => kk _ _ _ _ _ hl' hI)
    | some a => exact lv_astore_n hx hb hd rfl hl (blt_lt hlt) (congrArg _ (skp_map _ _)) (fun ls' hl' => kk _ _ _ _ _ hl' hI)
  · replace h := Option.bind_eq_some_iff.mp h
    obtain ⟨⟨x, t⟩, hx1, h⟩ := h
    replace h := cond_some h
    obtain ⟨hlt, h⟩ := h
    cases h
    rw [pA_inv hx1]
    cases x with
    | none => exact lv_astoreN hx hb hd hl (blt_lt hlt) (congrArg _ (skp_map _ _)) (fun ls' hl' => kk _ _ _ _ _ hl' hI)
    | some a => exact lv_astore hx hb hd hl (blt_lt hlt) (congrArg _ (skp_map _ _)) (fun ls' hl' => kk _ _ _ _ _ hl' hI)
  · replace h := Option.bind_eq_some_iff.mp h
    obtain ⟨v, hv, h⟩ := h
    replace h := Option.bind_eq_some_iff.mp h
    obtain ⟨x, hx1, h⟩ := h
    replace h := cond_some h
    obtain ⟨hlt, h⟩ := h
    cases vI_inv hx1
    cases h
    obtain ⟨j, hj⟩ := List.getElem?_of_mem (List.mem_map.mpr ⟨_, lkl_mem hv, rfl⟩ : (_, sval _) ∈ lo.map fun q => (q.1, sval q.2))
    exact lv_iinc hx hb hd hl hj rfl (blt_lt hlt) (congrArg _ (skp_map _ _)) (fun ls' hl' => kk _ _ _ _ _ hl' hI)
  · obtain ⟨y, hy1, h⟩ := Option.bind_eq_some_iff.mp h
    replace h := Option.bind_eq_some_iff.mp h
    obtain ⟨x, hx1, h⟩ := h
    cases h
    rw [pI_inv hy1, pI_inv hx1]
    exact lv_iadd hx hb hd (kk _ _ _ _ _ hl hI)
  · obtain ⟨y, hy1, h⟩ := Option.bind_eq_some_iff.mp h
    replace h := Option.bind_eq_some_iff.mp h
    obtain ⟨x, hx1, h⟩ := h
    cases h
    rw [pI_inv hy1, pI_inv hx1]
    exact lv_isub hx hb hd (kk _ _ _ _ _ hl hI)
  · obtain ⟨y, hy1, h⟩ := Option.bind_eq_some_iff.mp h
    replace h := Option.bind_eq_some_iff.mp h
    obtain ⟨x, hx1, h⟩ := h
    cases h
    rw [pI_inv hy1, pI_inv hx1]
    exact lv_imul hx hb hd (kk _ _ _ _ _ hl hI)
  · obtain ⟨y, hy1, h⟩ := Option.bind_eq_some_iff.mp h
    replace h := Option.bind_eq_some_iff.mp h
    obtain ⟨x, hx1, h⟩ := h
    cases h
    rw [pI_inv hy1, pI_inv hx1]
    exact lv_iand hx hb hd (kk _ _ _ _ _ hl hI)
  · obtain ⟨y, hy1, h⟩ := Option.bind_eq_some_iff.mp h
    replace h := Option.bind_eq_some_iff.mp h
    obtain ⟨x, hx1, h⟩ := h
    cases h
    rw [pI_inv hy1, pI_inv hx1]
    exact lv_ishl hx hb hd (kk _ _ _ _ _ hl hI)
  · obtain ⟨y, hy1, h⟩ := Option.bind_eq_some_iff.mp h
    replace h := Option.bind_eq_some_iff.mp h
    obtain ⟨x, hx1, h⟩ := h
    cases h
    rw [pI_inv hy1, pI_inv hx1]
    exact lv_ishr hx hb hd (kk _ _ _ _ _ hl hI)
  · replace h := Option.bind_eq_some_iff.mp h
    obtain ⟨y, hy1, h⟩ := h
    replace h := Option.bind_eq_some_iff.mp h
    obtain ⟨x, hx1, h⟩ := h
    by_cases e0 : y.1 = 0
    · rw [if_pos e0] at h
      cases h
    · rw [if_neg e0] at h
      cases h
      rw [pI_inv hy1, pI_inv hx1]
      exact lv_irem hx hb hd e0 (kk _ _ _ _ _ hl hI)
  · obtain ⟨y, hy1, h⟩ := Option.bind_eq_some_iff.mp h
    replace h := Option.bind_eq_some_iff.mp h
    obtain ⟨x, hx1, h⟩ := h
    cases h
    rw [pJ_inv hy1, pJ_inv hx1]
    exact lv_ladd hx hb hd (kk _ _ _ _ _ hl hI)
  · obtain ⟨y, hy1, h⟩ := Option.bind_eq_some_iff.mp h
    replace h := Option.bind_eq_some_iff.mp h
    obtain ⟨x, hx1, h⟩ := h
    cases h
    rw [pJ_inv hy1, pJ_inv hx1]
    exact lv_lsub hx hb hd (kk _ _ _ _ _ hl hI)
  · obtain ⟨y, hy1, h⟩ := Option.bind_eq_some_iff.mp h
    replace h := Option.bind_eq_some_iff.mp h
    obtain ⟨x, hx1, h⟩ := h
    cases h
    rw [pJ_inv hy1, pJ_inv hx1]
    exact lv_land hx hb hd (kk _ _ _ _ _ hl hI)
  · obtain ⟨y, hy1, h⟩ := Option.bind_eq_some_iff.mp h
    replace h := Option.bind_eq_some_iff.mp h
    obtain ⟨x, hx1, h⟩ := h
    cases h
    rw [pJ_inv hy1, pJ_inv hx1]
    exact lv_lor hx hb hd (kk _ _ _ _ _ hl hI)
  · obtain ⟨y, hy1, h⟩ := Option.bind_eq_some_iff.mp h
    replace h := Option.bind_eq_some_iff.mp h
    obtain ⟨x, hx1, h⟩ := h
    cases h
    rw [pJ_inv hy1, pJ_inv hx1]
    exact lv_lxor hx hb hd (kk _ _ _ _ _ hl hI)
  · obtain ⟨y, hy1, h⟩ := Option.bind_eq_some_iff.mp h
    replace h := Option.bind_eq_some_iff.mp h
    obtain ⟨x, hx1, h⟩ := h
    cases h
    rw [pI_inv hy1, pJ_inv hx1]
    exact lv_lshl hx hb hd rfl (kk _ _ _ _ _ hl hI)
  · obtain ⟨y, hy1, h⟩ := Option.bind_eq_some_iff.mp h
    replace h := Option.bind_eq_some_iff.mp h
    obtain ⟨x, hx1, h⟩ := h
    cases h
    rw [pI_inv hy1, pJ_inv hx1]
    exact lv_lshr hx hb hd rfl (kk _ _ _ _ _ hl hI)
  · obtain ⟨y, hy1, h⟩ := Option.bind_eq_some_iff.mp h
    replace h := Option.bind_eq_some_iff.mp h
    obtain ⟨x, hx1, h⟩ := h
    cases h
    rw [pI_inv hy1, pJ_inv hx1]
    exact lv_lushr hx hb hd rfl (kk _ _ _ _ _ hl hI)
  · obtain ⟨y, hy1, h⟩ := Option.bind_eq_some_iff.mp h
    replace h := Option.bind_eq_some_iff.mp h
    obtain ⟨x, hx1, h⟩ := h
    cases h
    rw [pJ_inv hy1, pJ_inv hx1]
    exact W.lcmp hx hb hd (kk _ _ _ _ _ hl hI)
  · replace h := Option.bind_eq_some_iff.mp h
    obtain ⟨x, hx1, h⟩ := h
    cases h
    rw [pJ_inv hx1]
    exact lv_l2i hx hb hd rfl (kk _ _ _ _ _ hl hI)
  · replace h := Option.bind_eq_some_iff.mp h
    obtain ⟨x, hx1, h⟩ := h
    cases h
    rw [pI_inv hx1]
    exact lv_i2l hx hb hd rfl (kk _ _ _ _ _ hl hI)
  · unfold du1 at h
    split at h
    · rename_i v t
      cases e0 : slong v with
      | true => rw [e0] at h; cases h
      | false =>
        rw [e0] at h
        cases h
        exact lv_dup hx hb hd (sval_cat1 e0) (kk _ _ _ _ _ hl hI)
    · cases h
  · unfold du2 at h
    split at h
    · rename_i v w t
      cases e0 : slong v with
      | true => rw [e0] at h; cases h
      | false =>
        cases e1 : slong w with
        | true => rw [e0, e1] at h; cases h
        | false =>
          rw [e0, e1] at h
          cases h
          exact lv_dup2_11 hx hb hd (sval_cat1 e0) (sval_cat1 e1) (kk _ _ _ _ _ hl hI)
    · cases h
  · unfold dx1 at h
    split at h
    · rename_i v w t
      cases e0 : slong v with
      | true => rw [e0] at h; cases h
      | false =>
        cases e1 : slong w with
        | true => rw [e0, e1] at h; cases h
        | false =>
          rw [e0, e1] at h
          cases h
          exact lv_dup_x1 hx hb hd (sval_cat1 e0) (sval_cat1 e1) (kk _ _ _ _ _ hl hI)
    · cases h
  · unfold po1 at h
    split at h
    · rename_i v t
      cases e0 : slong v with
      | true => rw [e0] at h; cases h
      | false =>
        rw [e0] at h
        cases h
        exact lv_pop hx hb hd (sval_cat1 e0) (kk _ _ _ _ _ hl hI)
    · cases h
  · cases h
set_option maxHeartbeats 4000000 in
theorem brc_sim (hC : Cx dA D p R s m args meth c mt) {pc tgt : Nat} {i : Instr} {lo : Ls} {st : List sv} {σ : Hp} {q : Cd × List sv} (hd : decode (byt (mnum mt)) pc = .ok (i, 3)) (ht : ∀ o, jtg i = some o → (pc : Int) + o = (tgt : Int)) (h : brc i st = some q)
    (kt : q.1.1 → WW p l e R s m args below meth c Q dA D σ0 mt tgt lo q.2 σ) (kf : ¬ q.1.1 → WW p l e R s m args below meth c Q dA D σ0 mt (pc + 3) lo q.2 σ) : WW p l e R s m args below meth c Q dA D σ0 mt pc lo st σ := by
  obtain ⟨hx, hb, -⟩ := hC
  intro H locs cells slots ls hl hI
  unfold brc at h
  split at h
  · obtain ⟨x, hx1, h⟩ := Option.bind_eq_some_iff.mp h
    cases h
    rw [pI_inv hx1]
    exact lv_if_eq hx hb hd (ht _ rfl) (fun a => kt a _ _ _ _ _ hl hI) (fun a => kf a _ _ _ _ _ hl hI)
  · obtain ⟨x, hx1, h⟩ := Option.bind_eq_some_iff.mp h
    cases h
    rw [pI_inv hx1]
    exact lv_if_ne hx hb hd (ht _ rfl) (fun a => kt a _ _ _ _ _ hl hI) (fun a => kf (fun n => n a) _ _ _ _ _ hl hI)
  · obtain ⟨x, hx1, h⟩ := Option.bind_eq_some_iff.mp h
    cases h
    rw [pI_inv hx1]
    exact lv_if_lt hx hb hd (ht _ rfl) (fun a => kt a _ _ _ _ _ hl hI) (fun a => kf a _ _ _ _ _ hl hI)
  · obtain ⟨x, hx1, h⟩ := Option.bind_eq_some_iff.mp h
    cases h
    rw [pI_inv hx1]
    exact lv_if_ge hx hb hd (ht _ rfl) (fun a => kt a _ _ _ _ _ hl hI) (fun a => kf a _ _ _ _ _ hl hI)
  · obtain ⟨x, hx1, h⟩ := Option.bind_eq_some_iff.mp h
    cases h
    rw [pI_inv hx1]
    exact lv_if_gt hx hb hd (ht _ rfl) (fun a => kt a _ _ _ _ _ hl hI) (fun a => kf a _ _ _ _ _ hl hI)
  · obtain ⟨x, hx1, h⟩ := Option.bind_eq_some_iff.mp h
    cases h
    rw [pI_inv hx1]
    exact lv_if_le hx hb hd (ht _ rfl) (fun a => kt a _ _ _ _ _ hl hI) (fun a => kf a _ _ _ _ _ hl hI)
  · obtain ⟨y, hy1, h⟩ := Option.bind_eq_some_iff.mp h
    replace h := Option.bind_eq_some_iff.mp h
    obtain ⟨x, hx1, h⟩ := h
    cases h
    rw [pI_inv hy1, pI_inv hx1]
    exact lv_icmp_eq hx hb hd (ht _ rfl) (fun a => kt a _ _ _ _ _ hl hI) (fun a => kf a _ _ _ _ _ hl hI)
  · obtain ⟨y, hy1, h⟩ := Option.bind_eq_some_iff.mp h
    replace h := Option.bind_eq_some_iff.mp h
    obtain ⟨x, hx1, h⟩ := h
    cases h
    rw [pI_inv hy1, pI_inv hx1]
    exact lv_icmp_ne hx hb hd (ht _ rfl) (fun a => kt a _ _ _ _ _ hl hI) (fun a => kf (fun n => n a) _ _ _ _ _ hl hI)
  · obtain ⟨y, hy1, h⟩ := Option.bind_eq_some_iff.mp h
    replace h := Option.bind_eq_some_iff.mp h
    obtain ⟨x, hx1, h⟩ := h
    cases h
    rw [pI_inv hy1, pI_inv hx1]
    exact lv_icmp_lt hx hb hd (ht _ rfl) (fun a => kt a _ _ _ _ _ hl hI) (fun a => kf a _ _ _ _ _ hl hI)
  · obtain ⟨y, hy1, h⟩ := Option.bind_eq_some_iff.mp h
    replace h := Option.bind_eq_some_iff.mp h
    obtain ⟨x, hx1, h⟩ := h
    cases h
    rw [pI_inv hy1, pI_inv hx1]
    exact lv_icmp_ge hx hb hd (ht _ rfl) (fun a => kt a _ _ _ _ _ hl hI) (fun a => kf a _ _ _ _ _ hl hI)
  · obtain ⟨y, hy1, h⟩ := Option.bind_eq_some_iff.mp h
    replace h := Option.bind_eq_some_iff.mp h
    obtain ⟨x, hx1, h⟩ := h
    cases h
    rw [pI_inv hy1, pI_inv hx1]
    exact lv_icmp_gt hx hb hd (ht _ rfl) (fun a => kt a _ _ _ _ _ hl hI) (fun a => kf a _ _ _ _ _ hl hI)
  · obtain ⟨y, hy1, h⟩ := Option.bind_eq_some_iff.mp h
    replace h := Option.bind_eq_some_iff.mp h
    obtain ⟨x, hx1, h⟩ := h
    cases h
    rw [pI_inv hy1, pI_inv hx1]
    exact lv_icmp_le hx hb hd (ht _ rfl) (fun a => kt a _ _ _ _ _ hl hI) (fun a => kf a _ _ _ _ _ hl hI)
  · replace h := Option.bind_eq_some_iff.mp h
    obtain ⟨y, hy1, h⟩ := h
    replace h := Option.bind_eq_some_iff.mp h
    obtain ⟨x, hx1, h⟩ := h
    cases h
    rw [pA_inv hy1, pA_inv hx1]
    exact lv_acmp_eq hx hb hd (ht _ rfl) (fun a => kt a _ _ _ _ _ hl hI) (fun a => kf a _ _ _ _ _ hl hI)
  · replace h := Option.bind_eq_some_iff.mp h
    obtain ⟨y, hy1, h⟩ := h
    replace h := Option.bind_eq_some_iff.mp h
    obtain ⟨x, hx1, h⟩ := h
    cases h
    rw [pA_inv hy1, pA_inv hx1]
    exact lv_acmp_ne hx hb hd (ht _ rfl) (fun a => kt a _ _ _ _ _ hl hI) (fun a => kf (fun n => n a) _ _ _ _ _ hl hI)
  · replace h := Option.bind_eq_some_iff.mp h
    obtain ⟨⟨x, t⟩, hx1, h⟩ := h
    cases h
    rw [pA_inv hx1]
    cases x with
    | none => exact lv_ifnullN hx hb hd (ht _ rfl) (kt rfl _ _ _ _ _ hl hI)
    | some a => exact lv_ifnull hx hb hd (kf (fun n => by cases n) _ _ _ _ _ hl hI)
  · replace h := Option.bind_eq_some_iff.mp h
    obtain ⟨⟨x, t⟩, hx1, h⟩ := h
    cases h
    rw [pA_inv hx1]
    cases x with
    | none => exact lv_ifnonnullN hx hb hd (kf (fun n => n rfl) _ _ _ _ _ hl hI)
    | some a => exact lv_ifnonnull hx hb hd (ht _ rfl) (kt (fun n => by cases n) _ _ _ _ _ hl hI)
  · cases h
end SIM
