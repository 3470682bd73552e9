/-! Events as numbers' data; how the class holds them; the methods of State that read. -/
/-- kind, sender, target, value, time, good, prevs, auths, chain, the state behind it, its auths by key -/
abbrev Ed : Type := (Nat → Nat) × (Nat → Nat) × (Nat → Nat) × (Nat → Int32) × (Nat → Int32) × (Nat → Int32) × (Nat → Int64) × (Nat → Int64) × (Nat → Int64) × (Nat → Nat → Nat) × (Nat → Nat → Nat)
def eK (E : Ed) : Nat → Nat := E.1
def eS (E : Ed) : Nat → Nat := E.2.1
def eT (E : Ed) : Nat → Nat := E.2.2.1
def eV (E : Ed) : Nat → Int32 := E.2.2.2.1
def eM (E : Ed) : Nat → Int32 := E.2.2.2.2.1
def eG (E : Ed) : Nat → Int32 := E.2.2.2.2.2.1
def eP (E : Ed) : Nat → Int64 := E.2.2.2.2.2.2.1
def eU (E : Ed) : Nat → Int64 := E.2.2.2.2.2.2.2.1
def eC (E : Ed) : Nat → Int64 := E.2.2.2.2.2.2.2.2.1
def eF (E : Ed) : Nat → Nat → Nat := E.2.2.2.2.2.2.2.2.2.1
def eA (E : Ed) : Nat → Nat → Nat := E.2.2.2.2.2.2.2.2.2.2
/-- the event e as an object at x, its three states at sb, sa, sf -/
def evc (E : Ed) (e sb sa sf : Nat) : Cl := .inr (1, [sI (nI e), sI (nI (eK E e)), sI (nI (eS E e)), sI (nI (eT E e)), sJ (eP E e), sA (some sb), sA (some sa), sA (some sf), sI (eV E e), sI (eM E e), sJ (eU E e), sJ (eC E e), sI (eG E e)])
def EvO (σ : Hp) (x : Nat) (E : Ed) (e : Nat) : Prop := ∃ sb sa sf, σ.2.2 x = some (evc E e sb sa sf)
def EvA (σ : Hp) (ea : Nat → Nat) (E : Ed) (N : Nat) : Prop := ∀ n, 1 ≤ n → n ≤ N → EvO σ (ea n) E n
def er (ea : Nat → Nat) (n : Nat) : Option Nat := if n = 0 then none else some (ea n)
/-- a State object at s: its array at a holds the events g -/
def StA (σ : Hp) (ea : Nat → Nat) (s a : Nat) (g : Nat → Nat) : Prop := σ.2.2 s = some (.inr (6, [sA (some a)])) ∧ ∃ f, σ.2.2 a = some (.inl (3, 9, .inr (.inr f))) ∧ ∀ j, j < 9 → f j = er ea (g j)
def StR (σ : Hp) (ea : Nat → Nat) (s : Nat) (g : Nat → Nat) : Prop := ∃ a, StA σ ea s a g
def gle (g : Nat → Nat) (N : Nat) : Prop := ∀ j, j < 9 → g j ≤ N
theorem er_0 (ea : Nat → Nat) : er ea 0 = none := rfl
theorem er_n {ea : Nat → Nat} {n : Nat} (h : n ≠ 0) : er ea n = some (ea n) := if_neg h
theorem StR.ld {σ : Hp} {ea : Nat → Nat} {s : Nat} {g : Nat → Nat} (h : StR σ ea s g) : ∃ a, gfA σ (some s) 6 0 = some (some a) ∧ ∀ j, j < 9 → alA σ (some a) (nI j) = some (er ea (g j)) := by
  obtain ⟨a, h1, f, h2, h3⟩ := h
  exact ⟨a, gfA_o h1 rfl, fun j hj => by rw [alA_o h2 rfl hj (by decide), h3 j hj]⟩
theorem StR.rc {σ : Hp} {ea : Nat → Nat} {s : Nat} {g : Nat → Nat} (h : StR σ ea s g) (t : List sv) : rcv σ (sA (some s) :: t) 6 = some s := by
  obtain ⟨a, h1, -⟩ := h
  exact rcv_o h1
section EvO
variable {σ : Hp} {x e : Nat} {E : Ed}
theorem EvO.num (h : EvO σ x E e) : gfI σ (some x) 1 0 = some (nI e) := by obtain ⟨_, _, _, h⟩ := h; exact gfI_o h rfl
theorem EvO.kd (h : EvO σ x E e) : gfI σ (some x) 1 1 = some (nI (eK E e)) := by obtain ⟨_, _, _, h⟩ := h; exact gfI_o h rfl
theorem EvO.sd (h : EvO σ x E e) : gfI σ (some x) 1 2 = some (nI (eS E e)) := by obtain ⟨_, _, _, h⟩ := h; exact gfI_o h rfl
theorem EvO.tg (h : EvO σ x E e) : gfI σ (some x) 1 3 = some (nI (eT E e)) := by obtain ⟨_, _, _, h⟩ := h; exact gfI_o h rfl
theorem EvO.pv (h : EvO σ x E e) : gfJ σ (some x) 1 4 = some (eP E e) := by obtain ⟨_, _, _, h⟩ := h; exact gfJ_o h rfl
theorem EvO.vl (h : EvO σ x E e) : gfI σ (some x) 1 8 = some (eV E e) := by obtain ⟨_, _, _, h⟩ := h; exact gfI_o h rfl
theorem EvO.tm (h : EvO σ x E e) : gfI σ (some x) 1 9 = some (eM E e) := by obtain ⟨_, _, _, h⟩ := h; exact gfI_o h rfl
theorem EvO.au (h : EvO σ x E e) : gfJ σ (some x) 1 10 = some (eU E e) := by obtain ⟨_, _, _, h⟩ := h; exact gfJ_o h rfl
theorem EvO.ch (h : EvO σ x E e) : gfJ σ (some x) 1 11 = some (eC E e) := by obtain ⟨_, _, _, h⟩ := h; exact gfJ_o h rfl
theorem EvO.gd (h : EvO σ x E e) : gfI σ (some x) 1 12 = some (eG E e) := by obtain ⟨_, _, _, h⟩ := h; exact gfI_o h rfl
theorem EvO.rc (h : EvO σ x E e) (t : List sv) : rcv σ (sA (some x) :: t) 1 = some x := by obtain ⟨_, _, _, h⟩ := h; exact rcv_o h
theorem EvO.ok (h : EvO σ x E e) : rok σ (some x) 1 = true := by obtain ⟨_, _, _, h⟩ := h; exact rok_o h
end EvO
/-! small answers -/
theorem rz_b {v : Int32} (h : v = 0 ∨ v = 1) (σ : Hp) : rz v σ = some (some (sI v), σ) := if_pos h
theorem Rm_bit (n : Nat) (σ : Hp) : cJ rF nRm_bit [sI (nI n)] σ = some ((1 : Int64) <<< ((nI n).toInt64 &&& 63), σ) := cJ_of (eRm_bit (nI n) σ)
/-! State's readings, as functions -/
def mm (E : Ed) (g : Nat → Nat) (u : Nat) : Int32 := if g (3 + u) = 0 then 0 else nI (eK E (g (3 + u)))
def lv (E : Ed) (g : Nat → Nat) (u : Nat) : Int32 := if g 1 = 0 then (if g 0 = 0 then 0 else if ¬ nI (eS E (g 0)) = nI u then 0 else 3) else (eV E (g 1) >>> (((2 : Int32) * nI u) &&& 31)) &&& (3 : Int32)
def opn (E : Ed) (g : Nat → Nat) : Int32 := if g 2 = 0 then 0 else if ¬ eV E (g 2) = 1 then 0 else 1
def led (E : Ed) (g : Nat → Nat) (u : Nat) : Int32 := if ¬ mm E g u = 1 then 0 else if lv E g u < 2 then 0 else 1
def pwr (E : Ed) (g : Nat → Nat) (u o : Nat) : Int32 := if ¬ mm E g u = 1 then 0 else if lv E g u < 2 then 0 else if lv E g u ≤ lv E g o then 0 else 1
def fst1 (E : Ed) (g : Nat → Nat) (e : Nat) : Int32 := if g 0 = 0 then 0 else if ¬ lg_cmp (eP E e) (bitN (g 0)) = 0 then 0 else if ¬ nI (eS E e) = nI (eS E (g 0)) then 0 else 1
def ajn (E : Ed) (g : Nat → Nat) (e : Nat) : Int32 := if ¬ nI (eS E e) = nI (eT E e) then 0 else if ¬ mm E g (eT E e) = 4 then (if ¬ opn E g = 0 then 1 else if mm E g (eT E e) = 1 then 1 else if mm E g (eT E e) = 2 then 1 else if fst1 E g e = 0 then 0 else 1) else 0
def ain (E : Ed) (g : Nat → Nat) (e : Nat) : Int32 := if ¬ mm E g (eS E e) = 1 then 0 else if mm E g (eT E e) = 1 then 0 else if mm E g (eT E e) = 4 then 0 else 1
def alv (E : Ed) (g : Nat → Nat) (e : Nat) : Int32 :=
  if ¬ nI (eS E e) = nI (eT E e) then (if mm E g (eT E e) = 1 ∨ mm E g (eT E e) = 2 ∨ mm E g (eT E e) = 4 then pwr E g (eS E e) (eT E e) else 0)
  else (if mm E g (eT E e) = 1 ∨ mm E g (eT E e) = 2 then 1 else 0)
def wnt (E : Ed) (e u : Nat) : Int32 := (eV E e >>> (((2 : Int32) * nI u) &&& 31)) &&& (3 : Int32)
/-- a user's level may be as it is wanted -/
def frl (E : Ed) (g : Nat → Nat) (e u : Nat) : Bool := decide (wnt E e u = lv E g u) || (!decide (lv E g (eS E e) < wnt E e u) && (decide (lv E g u < lv E g (eS E e)) || decide (nI u = nI (eS E e))))
def afr (p : Nat → Bool) : Nat → Nat → Bool
  | _, 0 => true
  | i, d + 1 => p i && afr p (i + 1) d
def all6 (p : Nat → Bool) : Bool := afr p 0 6
def alL (E : Ed) (g : Nat → Nat) (e : Nat) : Int32 := if ¬ led E g (eS E e) = 0 then (if all6 (frl E g e) = true then 1 else 0) else 0
def alw (E : Ed) (g : Nat → Nat) (e : Nat) : Int32 := if g 0 = 0 then 0 else match eK E e with
  | 1 => ajn E g e
  | 2 => ain E g e
  | 3 => alv E g e
  | 4 => pwr E g (eS E e) (eT E e)
  | 5 => alL E g e
  | 6 => led E g (eS E e)
  | 7 => if ¬ mm E g (eS E e) = 1 then 0 else 1
  | _ => 0
theorem i01 {p : Prop} {dp : Decidable p} {a b : Int32} (ha : a = 0 ∨ a = 1) (hb : b = 0 ∨ b = 1) : (@ite _ p dp a b) = 0 ∨ (@ite _ p dp a b) = 1 := by
  by_cases h : p
  · rw [if_pos h]; exact ha
  · rw [if_neg h]; exact hb
theorem o0 : (0 : Int32) = 0 ∨ (0 : Int32) = 1 := Or.inl rfl
theorem o1 : (1 : Int32) = 0 ∨ (1 : Int32) = 1 := Or.inr rfl
theorem led01 (E : Ed) (g : Nat → Nat) (u : Nat) : led E g u = 0 ∨ led E g u = 1 := i01 o0 (i01 o0 o1)
theorem pwr01 (E : Ed) (g : Nat → Nat) (u o : Nat) : pwr E g u o = 0 ∨ pwr E g u o = 1 := i01 o0 (i01 o0 (i01 o0 o1))
theorem ajn01 (E : Ed) (g : Nat → Nat) (e : Nat) : ajn E g e = 0 ∨ ajn E g e = 1 := i01 o0 (i01 (i01 o1 (i01 o1 (i01 o1 (i01 o0 o1)))) o0)
theorem ain01 (E : Ed) (g : Nat → Nat) (e : Nat) : ain E g e = 0 ∨ ain E g e = 1 := i01 o0 (i01 o0 (i01 o0 o1))
theorem alv01 (E : Ed) (g : Nat → Nat) (e : Nat) : alv E g e = 0 ∨ alv E g e = 1 := i01 (i01 (pwr01 _ _ _ _) o0) (i01 o1 o0)
theorem alL01 (E : Ed) (g : Nat → Nat) (e : Nat) : alL E g e = 0 ∨ alL E g e = 1 := i01 (i01 o1 o0) o0
section ST
variable {σ : Hp} {ea : Nat → Nat} {E : Ed} {N s x e : Nat} {g : Nat → Nat}
theorem ev_at (hE : EvA σ ea E N) (hg : gle g N) {j : Nat} (hj : j < 9) (h : g j ≠ 0) : EvO σ (ea (g j)) E (g j) := hE _ (by omega) (hg j hj)
theorem St_numberAt (hS : StR σ ea s g) (hE : EvA σ ea E N) (hg : gle g N) {j : Nat} (hj : j < 9) : cI rF nSt_numberAt [sA (some s), sI (nI j)] σ = some (nI (g j), σ) := by
  obtain ⟨a, h1, h2⟩ := hS.ld
  refine cI_of ((eSt_numberAt (some s) (nI j) σ).trans ?_)
  simp only [h1, h2 j hj, Option.bind_some]
  by_cases h : g j = 0
  · rw [h, er_0, if_neg (by simp), eSt_numberAt_22]; rfl
  · rw [er_n h, if_pos (by simp)]
    simp only [(ev_at hE hg hj h).num, Option.bind_some, eSt_numberAt_22]
theorem St_membership (hS : StR σ ea s g) (hE : EvA σ ea E N) (hg : gle g N) {u : Nat} (hu : u < 6) : cI rF nSt_membership [sA (some s), sI (nI u)] σ = some (mm E g u, σ) := by
  obtain ⟨a, h1, h2⟩ := hS.ld
  refine cI_of ((eSt_membership (some s) (nI u) σ).trans ?_)
  have e1 : (3 : Int32) + nI u = nI (3 + u) := nI_add 3 u
  simp only [h1, e1, h2 (3 + u) (by omega), Option.bind_some]
  unfold mm
  by_cases h : g (3 + u) = 0
  · rw [h, er_0, if_neg (by simp), eSt_membership_21, if_pos rfl]
  · rw [er_n h, if_pos (by simp), if_neg h]
    simp only [(ev_at hE hg (by omega) h).kd, Option.bind_some, eSt_membership_21]
theorem St_level (hS : StR σ ea s g) (hE : EvA σ ea E N) (hg : gle g N) (u : Nat) : cI rF nSt_level [sA (some s), sI (nI u)] σ = some (lv E g u, σ) := by
  obtain ⟨a, h1, h2⟩ := hS.ld
  refine cI_of ((eSt_level (some s) (nI u) σ).trans ?_)
  have h20 : alA σ (some a) (0 : Int32) = some (er ea (g 0)) := h2 0 (by decide)
  have h21 : alA σ (some a) (1 : Int32) = some (er ea (g 1)) := h2 1 (by decide)
  simp only [h1, h20, h21, Option.bind_some]
  unfold lv
  by_cases h : g 1 = 0
  · rw [h, er_0, if_pos rfl, if_pos rfl]
    by_cases h' : g 0 = 0
    · rw [h', er_0, if_pos rfl, if_pos rfl, eSt_level_45, eSt_level_46]
    · rw [er_n h', if_neg (by simp), if_neg h']
      simp only [(ev_at hE hg (by decide) h').sd, Option.bind_some]
      split
      · rw [eSt_level_45, eSt_level_46]
      · rw [eSt_level_46]
  · rw [er_n h, if_neg (by simp), if_neg h]
    simp only [(ev_at hE hg (by decide) h).vl, Option.bind_some]
theorem St_isOpen (hS : StR σ ea s g) (hE : EvA σ ea E N) (hg : gle g N) : cI rF nSt_isOpen [sA (some s)] σ = some (opn E g, σ) := by
  obtain ⟨a, h1, h2⟩ := hS.ld
  refine cI_of ((eSt_isOpen (some s) σ).trans ?_)
  have h22 : alA σ (some a) (2 : Int32) = some (er ea (g 2)) := h2 2 (by decide)
  simp only [h1, h22, Option.bind_some]
  unfold opn
  by_cases h : g 2 = 0
  · rw [h, er_0, if_pos rfl, if_pos rfl, eSt_isOpen_23, eSt_isOpen_24, rz_0]
  · rw [er_n h, if_neg (by simp), if_neg h]
    simp only [(ev_at hE hg (by decide) h).vl, Option.bind_some]
    split
    · rw [eSt_isOpen_23, eSt_isOpen_24, rz_0]
    · rw [eSt_isOpen_24, rz_1]
theorem St_leads (hS : StR σ ea s g) (hE : EvA σ ea E N) (hg : gle g N) {u : Nat} (hu : u < 6) : cI rF nSt_leads [sA (some s), sI (nI u)] σ = some (led E g u, σ) := by
  refine cI_of ((eSt_leads (some s) (nI u) σ).trans ?_)
  simp only [hS.rc, St_membership hS hE hg hu, St_level hS hE hg u, Option.bind_some]
  unfold led
  split
  · rw [eSt_leads_22, eSt_leads_23, rz_0]
  · split
    · rw [eSt_leads_22, eSt_leads_23, rz_0]
    · rw [eSt_leads_23, rz_1]
theorem St_hasPowerOver (hS : StR σ ea s g) (hE : EvA σ ea E N) (hg : gle g N) {u : Nat} (hu : u < 6) (o : Nat) : cI rF nSt_hasPowerOver [sA (some s), sI (nI u), sI (nI o)] σ = some (pwr E g u o, σ) := by
  refine cI_of ((eSt_hasPowerOver (some s) (nI u) (nI o) σ).trans ?_)
  simp only [hS.rc, St_membership hS hE hg hu, St_level hS hE hg, Option.bind_some]
  unfold pwr
  split
  · rw [eSt_hasPowerOver_33, eSt_hasPowerOver_34, rz_0]
  · split
    · rw [eSt_hasPowerOver_33, eSt_hasPowerOver_34, rz_0]
    · split
      · rw [eSt_hasPowerOver_33, eSt_hasPowerOver_34, rz_0]
      · rw [eSt_hasPowerOver_34, rz_1]
theorem St_isFirstJoin (hS : StR σ ea s g) (hE : EvA σ ea E N) (hg : gle g N) (hx : EvO σ x E e) : cI rF nSt_isFirstJoin [sA (some s), sA (some x)] σ = some (fst1 E g e, σ) := by
  obtain ⟨a, h1, h2⟩ := hS.ld
  refine cI_of ((eSt_isFirstJoin (some s) (some x) σ).trans ?_)
  have h20 : alA σ (some a) (0 : Int32) = some (er ea (g 0)) := h2 0 (by decide)
  simp only [h1, h20, Option.bind_some]
  unfold fst1
  by_cases h : g 0 = 0
  · rw [h, er_0, if_pos rfl, if_pos rfl, eSt_isFirstJoin_41, eSt_isFirstJoin_42, rz_0]
  · rw [er_n h, if_neg (by simp), if_neg h]
    have h0 := ev_at hE hg (by decide) h
    simp only [hx.pv, hx.sd, h0.num, h0.sd, Rm_bit, Option.bind_some]
    show (if ¬ lg_cmp (eP E e) (bitN (g 0)) = 0 then _ else _) = _
    split
    · rw [eSt_isFirstJoin_41, eSt_isFirstJoin_42, rz_0]
    · split
      · rw [eSt_isFirstJoin_41, eSt_isFirstJoin_42, rz_0]
      · rw [eSt_isFirstJoin_42, rz_1]
theorem St_allowsJoin (hS : StR σ ea s g) (hE : EvA σ ea E N) (hg : gle g N) (hx : EvO σ x E e) (ht : eT E e < 6) : cI rF nSt_allowsJoin [sA (some s), sA (some x)] σ = some (ajn E g e, σ) := by
  refine cI_of ((eSt_allowsJoin (some s) (some x) σ).trans ?_)
  simp only [hS.rc, hx.tg, hx.sd, St_membership hS hE hg ht, St_isOpen hS hE hg, St_isFirstJoin hS hE hg hx, Option.bind_some]
  unfold ajn
  split
  · rw [eSt_allowsJoin_25, rz_0]
  · split
    · split
      · rw [eSt_allowsJoin_52, eSt_allowsJoin_57, rz_1]
      · split
        · rw [eSt_allowsJoin_52, eSt_allowsJoin_57, rz_1]
        · split
          · rw [eSt_allowsJoin_52, eSt_allowsJoin_57, rz_1]
          · split
            · rw [eSt_allowsJoin_57, rz_0]
            · rw [eSt_allowsJoin_52, eSt_allowsJoin_57, rz_1]
    · rw [eSt_allowsJoin_25, rz_0]
theorem St_allowsInvite (hS : StR σ ea s g) (hE : EvA σ ea E N) (hg : gle g N) (hx : EvO σ x E e) (hs : eS E e < 6) (ht : eT E e < 6) : cI rF nSt_allowsInvite [sA (some s), sA (some x)] σ = some (ain E g e, σ) := by
  refine cI_of ((eSt_allowsInvite (some s) (some x) σ).trans ?_)
  simp only [hS.rc, hx.tg, hx.sd, St_membership hS hE hg ht, St_membership hS hE hg hs, Option.bind_some]
  unfold ain
  split
  · rw [eSt_allowsInvite_35, eSt_allowsInvite_36, rz_0]
  · split
    · rw [eSt_allowsInvite_35, eSt_allowsInvite_36, rz_0]
    · split
      · rw [eSt_allowsInvite_35, eSt_allowsInvite_36, rz_0]
      · rw [eSt_allowsInvite_36, rz_1]
theorem St_leave_47 (hS : StR σ ea s g) (hE : EvA σ ea E N) (hg : gle g N) (hx : EvO σ x E e) (hs : eS E e < 6) : fSt_allowsLeave_47 (some s) (some x) σ = some (some (sI (pwr E g (eS E e) (eT E e))), σ) := by
  rw [eSt_allowsLeave_47]
  simp only [hS.rc, hx.tg, hx.sd, St_hasPowerOver hS hE hg hs, Option.bind_some]
  rcases pwr01 E g (eS E e) (eT E e) with h | h
  · rw [h, if_pos rfl, eSt_allowsLeave_66, eSt_allowsLeave_67, rz_0]
  · rw [h, if_neg (by decide), eSt_allowsLeave_67, rz_1]
theorem St_allowsLeave (hS : StR σ ea s g) (hE : EvA σ ea E N) (hg : gle g N) (hx : EvO σ x E e) (hs : eS E e < 6) (ht : eT E e < 6) : cI rF nSt_allowsLeave [sA (some s), sA (some x)] σ = some (alv E g e, σ) := by
  refine cI_of ((eSt_allowsLeave (some s) (some x) σ).trans ?_)
  simp only [hS.rc, hx.tg, St_membership hS hE hg ht, Option.bind_some, eSt_allowsLeave_19, eSt_allowsLeave_24, hx.sd, St_leave_47 hS hE hg hx hs, eSt_allowsLeave_66, eSt_allowsLeave_67, rz_0, rz_1]
  unfold alv
  by_cases h1 : mm E g (eT E e) = 1
  · by_cases h2 : nI (eS E e) = nI (eT E e)
    · simp [h1, h2]
    · simp [h1, h2]
  · by_cases h3 : mm E g (eT E e) = 2
    · by_cases h2 : nI (eS E e) = nI (eT E e)
      · simp [h3, h2]
      · simp [h3, h2]
    · by_cases h4 : mm E g (eT E e) = 4
      · by_cases h2 : nI (eS E e) = nI (eT E e)
        · simp [h4, h2]
        · simp [h4, h2]
      · by_cases h2 : nI (eS E e) = nI (eT E e)
        · simp [h1, h3, h4, h2]
        · simp [h1, h3, h4, h2]
theorem i6 {i : Nat} (h : i < 6) : ¬ (6 : Int32) ≤ nI i := nI_ge (b := 6) h (by decide)
theorem i9 {i : Nat} (h : i < 9) : ¬ (9 : Int32) ≤ nI i := nI_ge (b := 9) h (by decide)
theorem nI1 (i : Nat) : nI i + (1 : Int32) = nI (i + 1) := nI_1 i
theorem St_levels_24 (hS : StR σ ea s g) (hE : EvA σ ea E N) (hg : gle g N) (hx : EvO σ x E e) : ∀ (d i : Nat), i + d = 6 → fSt_allowsLevels_24 (some s) (some x) (lv E g (eS E e)) (nI i) σ = some (some (sI (if afr (frl E g e) i d = true then 1 else 0)), σ) := by
  intro d
  induction d with
  | zero =>
    intro i hi
    have : i = 6 := by omega
    subst this
    rw [eSt_allowsLevels_24, if_pos (show (6 : Int32) ≤ nI 6 by decide), rz_1]
    rfl
  | succ d ih =>
    intro i hi
    have hn := ih (i + 1) (by omega)
    rw [eSt_allowsLevels_24, if_neg (i6 (by omega))]
    simp only [hS.rc, hx.vl, hx.sd, St_level hS hE hg, Option.bind_some, eSt_allowsLevels_69, eSt_allowsLevels_73, eSt_allowsLevels_74, eSt_allowsLevels_90, nI1, hn, rz_0]
    show _ = some (some (sI (if (frl E g e i && afr (frl E g e) (i + 1) d) = true then 1 else 0)), σ)
    have hw : (eV E e >>> (((2 : Int32) * nI i) &&& 31)) &&& (3 : Int32) = wnt E e i := rfl
    rw [hw]
    unfold frl
    by_cases h1 : wnt E e i = lv E g i
    · simp [h1]
    · by_cases h2 : lv E g (eS E e) < wnt E e i
      · simp [h1, h2]
      · by_cases h3 : lv E g i < lv E g (eS E e)
        · simp [h1, h2, h3]
        · by_cases h4 : nI i = nI (eS E e)
          · simp [h1, h2, h3, h4]
          · simp [h1, h2, h3, h4]
theorem St_allowsLevels (hS : StR σ ea s g) (hE : EvA σ ea E N) (hg : gle g N) (hx : EvO σ x E e) (hs : eS E e < 6) : cI rF nSt_allowsLevels [sA (some s), sA (some x)] σ = some (alL E g e, σ) := by
  refine cI_of ((eSt_allowsLevels (some s) (some x) σ).trans ?_)
  have h0 := St_levels_24 hS hE hg hx 6 0 rfl
  have h0' : fSt_allowsLevels_24 (some s) (some x) (lv E g (eS E e)) (0 : Int32) σ = some (some (sI (if all6 (frl E g e) = true then 1 else 0)), σ) := h0
  simp only [hS.rc, hx.sd, St_leads hS hE hg hs, St_level hS hE hg, Option.bind_some, h0', rz_0]
  unfold alL
  split <;> rfl
theorem St_allows (hS : StR σ ea s g) (hE : EvA σ ea E N) (hg : gle g N) (hx : EvO σ x E e) (hk : eK E e ≤ 7) (hs : eS E e < 6) (ht : eT E e < 6) : cI rF nSt_allows [sA (some s), sA (some x)] σ = some (alw E g e, σ) := by
  obtain ⟨a, h1, h2⟩ := hS.ld
  refine cI_of ((eSt_allows (some s) (some x) σ).trans ?_)
  have h20 : alA σ (some a) (0 : Int32) = some (er ea (g 0)) := h2 0 (by decide)
  simp only [h1, h20, Option.bind_some]
  unfold alw
  by_cases h : g 0 = 0
  · rw [h, er_0, if_neg (by simp), if_pos rfl, rz_0]
  · rw [er_n h, if_pos (by simp), if_neg h]
    simp only [hS.rc, hx.kd, hx.sd, hx.tg, Option.bind_some, St_allowsJoin hS hE hg hx ht, St_allowsInvite hS hE hg hx hs ht, St_allowsLeave hS hE hg hx hs ht, St_hasPowerOver hS hE hg hs, St_allowsLevels hS hE hg hx hs, St_leads hS hE hg hs, St_membership hS hE hg hs, rz_b (ajn01 E g e), rz_b (ain01 E g e), rz_b (alv01 E g e), rz_b (pwr01 E g (eS E e) (eT E e)), rz_b (alL01 E g e), rz_b (led01 E g (eS E e)), rz_0, rz_1, eSt_allows_119]
    rcases (show eK E e = 0 ∨ eK E e = 1 ∨ eK E e = 2 ∨ eK E e = 3 ∨ eK E e = 4 ∨ eK E e = 5 ∨ eK E e = 6 ∨ eK E e = 7 by omega) with q | q | q | q | q | q | q | q <;> rw [q]
    · rw [if_neg (by decide), if_neg (by decide), if_neg (by decide), if_neg (by decide), if_neg (by decide), if_neg (by decide), if_neg (by decide)]; rfl
    · rw [if_pos (by decide)]; rfl
    · rw [if_neg (by decide), if_pos (by decide)]; rfl
    · rw [if_neg (by decide), if_neg (by decide), if_pos (by decide)]; rfl
    · rw [if_neg (by decide), if_neg (by decide), if_neg (by decide), if_pos (by decide)]; rfl
    · rw [if_neg (by decide), if_neg (by decide), if_neg (by decide), if_neg (by decide), if_pos (by decide)]; rfl
    · rw [if_neg (by decide), if_neg (by decide), if_neg (by decide), if_neg (by decide), if_neg (by decide), if_pos (by decide)]; rfl
    · rw [if_neg (by decide), if_neg (by decide), if_neg (by decide), if_neg (by decide), if_neg (by decide), if_neg (by decide), if_pos (by decide)]
      show (if _ then _ else _) = some (some (sI (if ¬ mm E g (eS E e) = 1 then 0 else 1)), σ)
      split <;> rfl
/-! the chains of a state's events; levels with one changed -/
def whl (E : Ed) (g : Nat → Nat) : Nat → Nat → Int64 → Int64
  | _, 0, m => m
  | i, d + 1, m => whl E g (i + 1) d (if g i = 0 then m else m ||| eC E (g i))
theorem St_whole_4 (hS : StR σ ea s g) (hE : EvA σ ea E N) (hg : gle g N) : ∀ (d i : Nat) (m : Int64), i + d = 9 → fSt_whole_4 (some s) m (nI i) σ = some (some (sJ (whl E g i d m)), σ) := by
  obtain ⟨a, h1, h2⟩ := hS.ld
  intro d
  induction d with
  | zero =>
    intro i m hi
    have : i = 9 := by omega
    subst this
    rw [eSt_whole_4, if_pos (show (9 : Int32) ≤ nI 9 by decide)]
    rfl
  | succ d ih =>
    intro i m hi
    have hn := fun m => ih (i + 1) m (by omega)
    rw [eSt_whole_4, if_neg (i9 (by omega))]
    simp only [h1, h2 i (by omega), Option.bind_some, eSt_whole_31, nI1, hn]
    show _ = some (some (sJ (whl E g (i + 1) d (if g i = 0 then m else m ||| eC E (g i)))), σ)
    by_cases h : g i = 0
    · rw [h, er_0, if_pos rfl, if_pos rfl]
    · rw [er_n h, if_neg (by simp), if_neg h]
      simp only [(ev_at hE hg (by omega) h).ch, Option.bind_some, hn]
theorem St_whole (hS : StR σ ea s g) (hE : EvA σ ea E N) (hg : gle g N) : cJ rF nSt_whole [sA (some s)] σ = some (whl E g 0 9 0, σ) :=
  cJ_of ((eSt_whole (some s) σ).trans (St_whole_4 hS hE hg 9 0 0 rfl))
def lvw (E : Ed) (g : Nat → Nat) (t : Nat) (x : Int32) : Nat → Nat → Int32 → Int32
  | _, 0, m => m
  | i, d + 1, m => lvw E g t x (i + 1) d (m + ((if ¬ nI i = nI t then lv E g i else x) <<< (((2 : Int32) * nI i) &&& 31)))
theorem St_levelsWith_5 (hS : StR σ ea s g) (hE : EvA σ ea E N) (hg : gle g N) (t : Nat) (y : Int32) : ∀ (d i : Nat) (m : Int32), i + d = 6 → fSt_levelsWith_5 (some s) (nI t) y m (nI i) σ = some (some (sI (lvw E g t y i d m)), σ) := by
  intro d
  induction d with
  | zero =>
    intro i m hi
    have : i = 6 := by omega
    subst this
    rw [eSt_levelsWith_5, if_pos (show (6 : Int32) ≤ nI 6 by decide)]
    rfl
  | succ d ih =>
    intro i m hi
    have hn := fun m => ih (i + 1) m (by omega)
    rw [eSt_levelsWith_5, if_neg (i6 (by omega))]
    simp only [hS.rc, St_level hS hE hg, Option.bind_some, eSt_levelsWith_29, nI1, hn]
    show _ = some (some (sI (lvw E g t y (i + 1) d (m + ((if ¬ nI i = nI t then lv E g i else y) <<< (((2 : Int32) * nI i) &&& 31))))), σ)
    by_cases h : nI i = nI t
    · rw [if_neg (fun q => q h), if_neg (fun q => q h)]
    · rw [if_pos h, if_pos h]
theorem St_levelsWith (hS : StR σ ea s g) (hE : EvA σ ea E N) (hg : gle g N) (t : Nat) (y : Int32) : cI rF nSt_levelsWith [sA (some s), sI (nI t), sI y] σ = some (lvw E g t y 0 6 0, σ) :=
  cI_of ((eSt_levelsWith (some s) (nI t) y σ).trans (St_levelsWith_5 hS hE hg t y 6 0 0 rfl))
end ST
