/-! Our machine against the real one: when a heap holds an abstract heap; the state of a walk; rows for one instruction. -/
/-! inversion rows -/
theorem pI_inv {st : List sv} {q : Int32 × List sv} (h : pI st = some q) : st = sI q.1 :: q.2 := by
  unfold pI at h
  split at h
  · cases h; rfl
  · cases h
theorem pJ_inv {st : List sv} {q : Int64 × List sv} (h : pJ st = some q) : st = sJ q.1 :: q.2 := by
  unfold pJ at h
  split at h
  · cases h; rfl
  · cases h
theorem pA_inv {st : List sv} {q : Option Nat × List sv} (h : pA st = some q) : st = sA q.1 :: q.2 := by
  unfold pA at h
  split at h
  · cases h; rfl
  · cases h
theorem vI_inv {v : sv} {x : Int32} (h : vI v = some x) : v = sI x := by
  unfold vI at h
  split at h
  · cases h; rfl
  · cases h
theorem vJ_inv {v : sv} {x : Int64} (h : vJ v = some x) : v = sJ x := by
  unfold vJ at h
  split at h
  · cases h; rfl
  · cases h
theorem vA_inv {v : sv} {x : Option Nat} (h : vA v = some x) : v = sA x := by
  unfold vA at h
  split at h
  · cases h; rfl
  · cases h
theorem ob_inv {σ : Hp} {r : Option Nat} {ci : Nat} {q : Nat × List sv} (h : ob σ r ci = some q) : r = some q.1 ∧ σ.2.2 q.1 = some (.inr (ci, q.2)) := by
  unfold ob at h
  replace h := Option.bind_eq_some_iff.mp h
  obtain ⟨a, ha, h⟩ := h
  replace h := Option.bind_eq_some_iff.mp h
  obtain ⟨c, hc, h⟩ := h
  subst ha
  split at h
  · rename_i x
    by_cases e : x.1 = ci
    · rw [if_pos e] at h
      cases h
      subst e
      exact ⟨rfl, hc⟩
    · rw [if_neg e] at h
      cases h
  · cases h
theorem ar_inv {σ : Hp} {r : Option Nat} {q : Nat × Nat × Nat × Ac} (h : ar σ r = some q) : r = some q.1 ∧ σ.2.2 q.1 = some (.inl q.2) := by
  unfold ar at h
  replace h := Option.bind_eq_some_iff.mp h
  obtain ⟨a, ha, h⟩ := h
  replace h := Option.bind_eq_some_iff.mp h
  obtain ⟨c, hc, h⟩ := h
  subst ha
  split at h
  · cases h
    exact ⟨rfl, hc⟩
  · cases h
theorem cond_some {α : Type} {b : Bool} {x : Option α} {y : α} (h : (bif b then x else none) = some y) : b = true ∧ x = some y := by
  cases b
  · cases h
  · exact ⟨rfl, h⟩
theorem ite_some {α : Type} {p : Prop} {d : Decidable p} {x : Option α} {y : α} (h : (@ite _ p d x none) = some y) : p ∧ x = some y := by
  by_cases e : p
  · rw [if_pos e] at h; exact ⟨e, h⟩
  · rw [if_neg e] at h; cases h
theorem inb_inv {i : Int32} {n : Nat} (h : inb i n = true) : ¬ (i < 0 ∨ n ≤ i.toNatClampNeg) := by
  unfold inb at h
  simp only [Bool.and_eq_true, Bool.not_eq_true', decide_eq_false_iff_not, decide_eq_true_eq] at h
  rintro (q | q)
  · exact h.1 q
  · omega
theorem blt_lt {a b : Nat} (h : Nat.blt a b = true) : a < b := by
  unfold Nat.blt at h
  exact Nat.le_of_ble_eq_true h
theorem beq_eq' {a b : Nat} (h : Nat.beq a b = true) : a = b := Nat.eq_of_beq_eq_true h
/-! values and locals -/
theorem va_rf_cat (r : Option Nat) : (va_rf r).category = 1 := by cases r <;> rfl
theorem sval_cat (v : sv) : ((sval v).category == 2) = slong v := by
  rcases v with x | x | r
  · rfl
  · rfl
  · show ((va_rf r).category == 2) = false
    rw [va_rf_cat]; rfl
theorem sval_cat1 {v : sv} (h : slong v = false) : (sval v).category = 1 := by
  rcases v with x | x | r
  · rfl
  · cases h
  · exact va_rf_cat r
def sh (ls : Array Slot) (nL : Nat) (l : Ls) : Prop := lv_has ls nL (l.map fun q => (q.1, sval q.2))
theorem lkl_mem {l : Ls} {k : Nat} {v : sv} (h : lkl l k = some v) : (k, v) ∈ l := by
  induction l with
  | nil => cases h
  | cons q t ih =>
    unfold lkl at h
    cases e : Nat.beq q.1 k with
    | true =>
      rw [e] at h
      cases h
      have := beq_eq' e
      subst this
      exact List.mem_cons_self
    | false =>
      rw [e] at h
      exact List.mem_cons_of_mem _ (ih h)
theorem sh_at {ls : Array Slot} {nL : Nat} {l : Ls} (h : sh ls nL l) {k : Nat} {v : sv} (hk : lkl l k = some v) : ls[k]? = some (.val (sval v)) :=
  h.2.2 (k, sval v) (List.mem_map.mpr ⟨(k, v), lkl_mem hk, rfl⟩)
theorem pck_mem {l : Ls} : ∀ {ks : List Nat} {q : Nat × sv}, q ∈ pck l ks → q ∈ l := by
  intro ks
  induction ks with
  | nil => intro q h; cases h
  | cons k ks ih =>
    intro q h
    unfold pck at h
    split at h
    · rename_i v hv
      rcases List.mem_cons.mp h with rfl | h
      · exact lkl_mem hv
      · exact ih h
    · exact ih h
theorem sh_msk {ls : Array Slot} {nL : Nat} {l : Ls} (h : sh ls nL l) (o : Option (List Nat)) : sh ls nL (msk l o) := by
  cases o with
  | none => exact h
  | some ks =>
    refine ⟨h.1, h.2.1, fun q hq => ?_⟩
    obtain ⟨x, hx, rfl⟩ := List.mem_map.mp hq
    exact h.2.2 _ (List.mem_map.mpr ⟨x, pck_mem hx, rfl⟩)
theorem skp_map (i : Nat) (l : Ls) : (l.map fun q => (q.1, sval q.2)).filter (fun q => !(q.1 == i) && !(q.1 + 1 == i && q.2.category == 2)) = (skp i l).map fun q => (q.1, sval q.2) := by
  rw [skp, List.filter_map]
  congr 1
  apply List.filter_congr
  intro q _
  simp only [Function.comp, sval_cat]
theorem skp2_map (i : Nat) (l : Ls) : (l.map fun q => (q.1, sval q.2)).filter (fun q => !(q.1 == i) && (!(q.1 == i + 1) && !(q.1 + 1 == i && q.2.category == 2))) = (skp2 i l).map fun q => (q.1, sval q.2) := by
  rw [skp2, List.filter_map]
  congr 1
  apply List.filter_congr
  intro q _
  simp only [Function.comp, sval_cat]
theorem sargs_map : ∀ (a : List sv) (k : Nat), ((sargs k a).map fun q => (q.1, sval q.2)) = lv_args k (a.map sval) := by
  intro a
  induction a with
  | nil => intro k; rfl
  | cons v t ih =>
    intro k
    show (k, sval v) :: ((sargs (bif slong v then k + 2 else k + 1) t).map fun q => (q.1, sval q.2)) = (k, sval v) :: lv_args (if (sval v).category = 2 then k + 2 else k + 1) (t.map sval)
    rw [ih]
    have e : (bif slong v then k + 2 else k + 1) = (if (sval v).category = 2 then k + 2 else k + 1) := by
      rw [← sval_cat]
      by_cases h : (sval v).category = 2
      · simp [h]
      · have h0 : ((sval v).category == 2) = false := by simpa using h
        rw [h0, if_neg h]; rfl
    rw [e]
theorem wsum_cat : ∀ (st : List sv), ((st.map sval).map fun v => v.category).sum = wsum st := by
  intro st
  induction st with
  | nil => rfl
  | cons v t ih =>
    simp only [List.map_cons, List.sum_cons, wsum, ih]
    rcases v with x | x | r
    · rfl
    · rfl
    · show (va_rf r).category + _ = _
      rw [va_rf_cat]; rfl
theorem popn_inv : ∀ (n : Nat) (acc st : List sv) {q : List sv × List sv}, popn n acc st = some q → ∃ b : List sv, st = b ++ q.2 ∧ q.1 = b.reverse ++ acc ∧ b.length = n := by
  intro n
  induction n with
  | zero =>
    intro acc st q h
    cases h
    exact ⟨[], rfl, rfl, rfl⟩
  | succ n ih =>
    intro acc st q h
    cases st with
    | nil => cases h
    | cons v t =>
      obtain ⟨b, h1, h2, h3⟩ := ih (v :: acc) t h
      exact ⟨v :: b, by rw [h1]; rfl, by rw [h2]; simp, by simp [h3]⟩
/-! the heap -/
def wr (c : Cl) : Bool := match c with
  | .inl q => !(Nat.beq q.1 99)
  | .inr _ => true
def c1 (dA : Nat → ClassId) (D : va_G) (U : State) (H : Heap) (a : Nat) (c : Cl) : Prop := match c with
  | .inl q => (q.1 = 99 ∧ ∃ g, q.2.2 = .inl g ∧ va_X a q.2.1 g U H) ∨ (q.1 < 6 ∧ H[a]? = some (arrV (dA q.1) q.2.1 (acv q.2.2)))
  | .inr q => ∃ r : vw_C, scl[q.1]? = some r ∧ t_OB a (D.1 q.1) r.2.2 (D.2 q.1) H (vp_V (q.2.map sval)) ∧ q.2.length = r.2.2
theorem c1.kept {dA : Nat → ClassId} {D : va_G} {U : State} {H H1 : Heap} {a : Nat} {c : Cl} (h : c1 dA D U H a c) (e : H1[a]? = H[a]?) : c1 dA D U H1 a c := by
  rcases c with q | q
  · rcases h with ⟨h1, g, h2, h3⟩ | ⟨h1, h2⟩
    · exact Or.inl ⟨h1, g, h2, h3.kept e⟩
    · exact Or.inr ⟨h1, e.trans h2⟩
  · obtain ⟨r, h1, h2, h3⟩ := h
    exact ⟨r, h1, h2.kept e, h3⟩
theorem c1.moved {dA : Nat → ClassId} {D : va_G} {u U : State} {H : Heap} {a : Nat} {c : Cl} (hvm : u.vm.Alike U.vm) (h : c1 dA D u H a c) : c1 dA D U H a c := by
  rcases c with q | q
  · rcases h with ⟨h1, g, h2, h3⟩ | h
    · exact Or.inl ⟨h1, g, h2, h3.moved hvm⟩
    · exact Or.inr h
  · exact h
theorem c1.lt {dA : Nat → ClassId} {D : va_G} {U : State} {H : Heap} {a : Nat} {c : Cl} (h : c1 dA D U H a c) : a < H.size := by
  rcases c with q | q
  · rcases h with ⟨h1, g, h2, scr, h3, -⟩ | ⟨h1, h2⟩
    · exact (Array.getElem?_eq_some_iff.mp h3).1
    · exact (Array.getElem?_eq_some_iff.mp h2).1
  · obtain ⟨r, h1, ⟨cell, h2, -⟩, -⟩ := h
    exact (Array.getElem?_eq_some_iff.mp h2).1
def Hd (dA : Nat → ClassId) (D : va_G) (U : State) (σ : Hp) (H : Heap) : Prop := H.size = σ.1 ∧ ∀ (a : Nat) (c : Cl), σ.2.2 a = some c → c1 dA D U H a c
theorem Hd.moved {dA : Nat → ClassId} {D : va_G} {u U : State} {σ : Hp} {H : Heap} (hvm : u.vm.Alike U.vm) (h : Hd dA D u σ H) : Hd dA D U σ H := ⟨h.1, fun a c hc => (h.2 a c hc).moved hvm⟩
theorem Hd.put {dA : Nat → ClassId} {D : va_G} {U : State} {σ : Hp} {H H1 : Heap} {a : Nat} {c : Cl} (h : Hd dA D U σ H) (z : H1.size = H.size) (o : ∀ q : Nat, q ≠ a → H1[q]? = H[q]?) (hc : c1 dA D U H1 a c) : Hd dA D U (hput σ a c) H1 := by
  refine ⟨z.trans h.1, fun b d hb => ?_⟩
  by_cases e : b = a
  · subst e
    have : some c = some d := by rw [← hb]; exact (va_up_self _ _ _).symm
    cases this
    exact hc
  · have hb' : σ.2.2 b = some d := by rw [← hb]; exact (va_up_ne _ _ e).symm
    exact (h.2 b d hb').kept (o b e)
theorem Hd.new {dA : Nat → ClassId} {D : va_G} {U : State} {σ : Hp} {H H1 : Heap} {n : Nat} {c : Cl} (h : Hd dA D U σ H) (z : H1.size = H.size + 1) (o : ∀ q : Nat, q < H.size → H1[q]? = H[q]?) (hc : c1 dA D U H1 H.size c) : Hd dA D U (hnew σ n c) H1 := by
  refine ⟨by rw [z, h.1]; rfl, fun b d hb => ?_⟩
  by_cases e : b = σ.1
  · subst e
    have : some c = some d := by rw [← hb]; exact (va_up_self _ _ _).symm
    cases this
    rw [← h.1]
    exact hc
  · have hb' : σ.2.2 b = some d := by rw [← hb]; exact (va_up_ne _ _ e).symm
    exact (h.2 b d hb').kept (o b (h.2 b d hb').lt)
def Af (σ : Hp) (q : Nat) : Prop := (∃ c, σ.2.2 q = some c ∧ wr c = true) ∨ σ.1 ≤ q
/-- a walk's state: the heap, what was written, what was made -/
def Iv (dA : Nat → ClassId) (D : va_G) (s : State) (σ0 σ : Hp) (H : Heap) (locs : List Loc) (cells slots : Nat) : Prop :=
  Hd dA D s σ H ∧ va_S (Af σ0) s.heap H locs ∧ (∀ a c, σ.2.2 a = some c → wr c = true → Af σ0 a) ∧ cells + σ0.1 = σ.1 ∧ slots + σ0.2.1 = σ.2.1 ∧ s.heap.size = σ0.1
theorem Iv.put {dA : Nat → ClassId} {D : va_G} {s : State} {σ0 σ : Hp} {H H1 : Heap} {locs : List Loc} {cells slots a i : Nat} {c d : Cl} (h : Iv dA D s σ0 σ H locs cells slots) (z : H1.size = H.size) (o : ∀ q : Nat, q ≠ a → H1[q]? = H[q]?) (hc : c1 dA D s H1 a c) (hd : σ.2.2 a = some d) (hw : wr d = true) :
    Iv dA D s σ0 (hput σ a c) H1 (locs ++ [⟨a, i⟩]) cells slots := by
  obtain ⟨h1, h2, h3, h4, h5, h6⟩ := h
  refine ⟨h1.put z o hc, h2.put z o (h3 a d hd hw), fun b x hb hx => ?_, h4, h5, h6⟩
  by_cases e : b = a
  · rw [e]; exact h3 a d hd hw
  · exact h3 b x (by rw [← hb]; exact (va_up_ne _ _ e).symm) hx
theorem Iv.new {dA : Nat → ClassId} {D : va_G} {s : State} {σ0 σ : Hp} {H H1 : Heap} {locs : List Loc} {cells slots n : Nat} {c : Cl} (h : Iv dA D s σ0 σ H locs cells slots) (z : H1.size = H.size + 1) (o : ∀ q : Nat, q < H.size → H1[q]? = H[q]?) (hc : c1 dA D s H1 H.size c) :
    Iv dA D s σ0 (hnew σ n c) H1 locs (cells + 1) (slots + n) := by
  obtain ⟨h1, h2, h3, h4, h5, h6⟩ := h
  refine ⟨h1.new z o hc, ⟨by rw [z]; exact Nat.le_succ_of_le h2.1, fun q hq hA => (o q (Nat.lt_of_lt_of_le hq h2.1)).trans (h2.2.1 q hq hA), h2.2.2⟩, fun b x hb hx => ?_, ?_, ?_, h6⟩
  · by_cases e : b = σ.1
    · refine Or.inr ?_
      omega
    · exact h3 b x (by rw [← hb]; exact (va_up_ne _ _ e).symm) hx
  · show cells + 1 + σ0.1 = σ.1 + 1
    omega
  · show slots + n + σ0.2.1 = σ.2.1 + n
    omega
theorem vP1 {D : va_G} {cl : List vw_C} {q : Nat × va_E} {H : Heap} (h : va_at D cl q H) : va_P D cl [q] H := by
  intro k x hk
  cases k with
  | zero => cases hk; exact h
  | succ n => simp at hk
