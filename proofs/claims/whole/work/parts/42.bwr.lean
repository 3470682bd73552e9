/-! What stays when a cell is written; State's writing methods; Event's own readings; sets; history; servers. -/
theorem ne_oa {σ : Hp} {s a : Nat} {q : Nat × List sv} {r : Nat × Nat × Ac} (h1 : σ.2.2 s = some (.inr q)) (h2 : σ.2.2 a = some (.inl r)) : s ≠ a := by
  intro e
  rw [e, h2] at h1
  cases h1
section NE
variable {σ : Hp} {a s : Nat} {c : Cl}
theorem gfI_ne (h : s ≠ a) (ci k : Nat) : gfI (hput σ a c) (some s) ci k = gfI σ (some s) ci k := by simp [gfI, gf, ob, hput_ne h]
theorem gfJ_ne (h : s ≠ a) (ci k : Nat) : gfJ (hput σ a c) (some s) ci k = gfJ σ (some s) ci k := by simp [gfJ, gf, ob, hput_ne h]
theorem gfA_ne (h : s ≠ a) (ci k : Nat) : gfA (hput σ a c) (some s) ci k = gfA σ (some s) ci k := by simp [gfA, gf, ob, hput_ne h]
theorem EvO.ne {E : Ed} {e : Nat} (h : s ≠ a) (hx : EvO σ s E e) : EvO (hput σ a c) s E e := by
  obtain ⟨sb, sa, sf, hx⟩ := hx
  exact ⟨sb, sa, sf, by rw [hput_ne h]; exact hx⟩
theorem rok_arr {r : Nat × Nat × Ac} (h : σ.2.2 a = some (.inl r)) {x : Option Nat} {ci : Nat} (hx : rok σ x ci = true) : rok (hput σ a c) x ci = true := by
  cases x with
  | none => rfl
  | some b =>
    obtain ⟨q, hq⟩ := Option.isSome_iff_exists.mp hx
    obtain ⟨e1, e2⟩ := ob_inv hq
    cases e1
    have hne := ne_oa e2 h
    exact rok_o (by rw [hput_ne hne]; exact e2)
/-- an array's write leaves events and other states alone -/
theorem EvO.arr {r : Nat × Nat × Ac} {E : Ed} {e : Nat} (h : σ.2.2 a = some (.inl r)) (hx : EvO σ s E e) : EvO (hput σ a c) s E e := by
  have hx' := hx
  obtain ⟨sb, sa, sf, hx'⟩ := hx'
  exact hx.ne (ne_oa hx' h)
theorem EvA.arr {r : Nat × Nat × Ac} {ea : Nat → Nat} {E : Ed} {N : Nat} (h : σ.2.2 a = some (.inl r)) (hE : EvA σ ea E N) : EvA (hput σ a c) ea E N := fun n h1 h2 => (hE n h1 h2).arr h
end NE
def cpc (f f2 : Nat → Option Nat) (i : Nat) : Cl := .inl (3, 9, .inr (.inr (fun j => if j < i then f2 j else f j)))
theorem St_copy_2 {σ : Hp} {s a s2 b : Nat} {f f2 : Nat → Option Nat} (h1 : σ.2.2 s = some (.inr (6, [sA (some a)]))) (h2 : σ.2.2 a = some (.inl (3, 9, .inr (.inr f)))) (h3 : σ.2.2 s2 = some (.inr (6, [sA (some b)]))) (h4 : σ.2.2 b = some (.inl (3, 9, .inr (.inr f2)))) (hab : a ≠ b) (hok : ∀ j, j < 9 → rok σ (f2 j) 1 = true) :
    ∀ d i, i + d = 9 → fSt_copyFrom_2 (some s) (some s2) (nI i) (hput σ a (cpc f f2 i)) = some (none, hput σ a (cpc f f2 9)) := by
  intro d
  induction d with
  | zero =>
    intro i hi
    have : i = 9 := by omega
    subst this
    rw [eSt_copyFrom_2, if_pos (show (9 : Int32) ≤ nI 9 by decide)]
  | succ d ih =>
    intro i hi
    have hn := ih (i + 1) (by omega)
    have g1 : (hput σ a (cpc f f2 i)).2.2 s = some (.inr (6, [sA (some a)])) := by rw [hput_ne (ne_oa h1 h2)]; exact h1
    have g3 : (hput σ a (cpc f f2 i)).2.2 s2 = some (.inr (6, [sA (some b)])) := by rw [hput_ne (ne_oa h3 h2)]; exact h3
    have g4 : (hput σ a (cpc f f2 i)).2.2 b = some (.inl (3, 9, .inr (.inr f2))) := by rw [hput_ne (Ne.symm hab)]; exact h4
    have g2 : (hput σ a (cpc f f2 i)).2.2 a = some (cpc f f2 i) := hput_same _ _ _
    rw [eSt_copyFrom_2, if_neg (i9 (by omega)), gfA_o g1 rfl, Option.bind_some, gfA_o g3 rfl, Option.bind_some, alA_o g4 rfl (show i < 9 by omega) (by decide), Option.bind_some, asA_o g2 rfl (show i < 9 by omega) (by decide) (rok_arr h2 (hok i (by omega))), Option.bind_some, hput_hput, nI1]
    have e : (.inl (3, 9, .inr (.inr (va_up (fun j => if j < i then f2 j else f j) i (f2 i)))) : Cl) = cpc f f2 (i + 1) := by
      unfold cpc
      congr 5
      funext j
      by_cases hj : j = i
      · subst hj
        simp [va_up]
      · by_cases hl : j < i
        · simp [va_up, hj, hl, Nat.lt_succ_of_lt hl]
        · have hl2 : ¬ j < i + 1 := by omega
          simp [va_up, hj, hl, hl2]
    rw [e]
    exact hn
theorem St_copyFrom {σ : Hp} {s a s2 b : Nat} {f f2 : Nat → Option Nat} (h1 : σ.2.2 s = some (.inr (6, [sA (some a)]))) (h2 : σ.2.2 a = some (.inl (3, 9, .inr (.inr f)))) (h3 : σ.2.2 s2 = some (.inr (6, [sA (some b)]))) (h4 : σ.2.2 b = some (.inl (3, 9, .inr (.inr f2)))) (hab : a ≠ b) (hok : ∀ j, j < 9 → rok σ (f2 j) 1 = true) :
    cV rF nSt_copyFrom [sA (some s), sA (some s2)] σ = some (hput σ a (cpc f f2 9)) := by
  refine cV_of ((eSt_copyFrom (some s) (some s2) σ).trans ?_)
  have h0 := St_copy_2 h1 h2 h3 h4 hab hok 9 0 rfl
  have e : hput σ a (cpc f f2 0) = σ := hput_self (by rw [h2]; unfold cpc; simp)
  rw [e] at h0
  exact h0
/-! Event's readings -/
def kyI (E : Ed) (e : Nat) : Int32 := if eK E e = 0 then 0 else if eK E e = 5 then 1 else if eK E e = 6 then 2 else if eK E e = 7 then -1 else nI (3 + eT E e)
def kyN (E : Ed) (e : Nat) : Nat := if eK E e = 0 then 0 else if eK E e = 5 then 1 else if eK E e = 6 then 2 else 3 + eT E e
theorem kyI_N {E : Ed} {e : Nat} (h : eK E e ≠ 7) : kyI E e = nI (kyN E e) := by
  unfold kyI kyN
  split
  · rfl
  · split
    · rfl
    · split
      · rfl
      · rfl
theorem kyN_lt {E : Ed} {e : Nat} (h : eT E e < 6) : kyN E e < 9 := by
  unfold kyN
  split
  · omega
  · split
    · omega
    · split <;> omega
section EV
variable {σ : Hp} {ea : Nat → Nat} {E : Ed} {N s x e : Nat} {g : Nat → Nat}
theorem Ev_key (hx : EvO σ x E e) (hk : eK E e ≤ 7) : cI rF nEv_key [sA (some x)] σ = some (kyI E e, σ) := by
  refine cI_of ((eEv_key (some x) σ).trans ?_)
  have e1 : (3 : Int32) + nI (eT E e) = nI (3 + eT E e) := nI_add 3 _
  simp only [hx.kd, hx.tg, Option.bind_some, e1]
  unfold kyI
  rcases (show eK E e = 0 ∨ eK E e = 1 ∨ eK E e = 2 ∨ eK E e = 3 ∨ eK E e = 4 ∨ eK E e = 5 ∨ eK E e = 6 ∨ eK E e = 7 by omega) with q | q | q | q | q | q | q | q <;> rw [q] <;> rfl
def hvy (E : Ed) (e : Nat) : Int32 := if eK E e = 5 ∨ eK E e = 6 ∨ eK E e = 4 ∨ (eK E e = 3 ∧ ¬ nI (eS E e) = nI (eT E e)) then 1 else 0
theorem kEq {E : Ed} {e : Nat} (hk : eK E e ≤ 7) (m : Nat) (hm : m ≤ 7) : (nI (eK E e) = nI m) ↔ eK E e = m := nI_eq (by omega) (by omega)
theorem Ev_isHeavy (hx : EvO σ x E e) (hk : eK E e ≤ 7) : cI rF nEv_isHeavy [sA (some x)] σ = some (hvy E e, σ) := by
  refine cI_of ((eEv_isHeavy (some x) σ).trans ?_)
  have k5 : (nI (eK E e) = (5 : Int32)) ↔ eK E e = 5 := kEq hk 5 (by decide)
  have k6 : (nI (eK E e) = (6 : Int32)) ↔ eK E e = 6 := kEq hk 6 (by decide)
  have k4 : (nI (eK E e) = (4 : Int32)) ↔ eK E e = 4 := kEq hk 4 (by decide)
  have k3 : (nI (eK E e) = (3 : Int32)) ↔ eK E e = 3 := kEq hk 3 (by decide)
  simp only [hx.kd, hx.sd, hx.tg, Option.bind_some, eEv_isHeavy_44, eEv_isHeavy_48, eEv_isHeavy_49, rz_0, rz_1, k5, k6, k4, k3]
  unfold hvy
  by_cases q5 : eK E e = 5
  · simp [q5]
  · by_cases q6 : eK E e = 6
    · simp [q6]
    · by_cases q4 : eK E e = 4
      · simp [q4]
      · by_cases q3 : eK E e = 3
        · by_cases qs : nI (eS E e) = nI (eT E e)
          · simp [q3, qs]
          · simp [q3, qs]
        · simp [q5, q6, q4, q3]
theorem Ev_isOfMembership (hx : EvO σ x E e) (hk : eK E e ≤ 7) : cI rF nEv_isOfMembership [sA (some x)] σ = some (if 1 ≤ eK E e ∧ eK E e ≤ 4 then 1 else 0, σ) := by
  refine cI_of ((eEv_isOfMembership (some x) σ).trans ?_)
  have k1 : (nI (eK E e) < (1 : Int32)) ↔ eK E e < 1 := nI_ltI (a := eK E e) (b := 1) (by omega) (by decide)
  have k4 : ((4 : Int32) < nI (eK E e)) ↔ 4 < eK E e := nI_ltI (a := 4) (b := eK E e) (by decide) (by omega)
  simp only [hx.kd, Option.bind_some, eEv_isOfMembership_20, eEv_isOfMembership_21, rz_0, rz_1, k1, k4]
  by_cases q1 : eK E e < 1
  · rw [if_pos q1, if_neg (by omega)]
  · rw [if_neg q1]
    by_cases q4 : 4 < eK E e
    · rw [if_pos q4, if_neg (by omega)]
    · rw [if_neg q4, if_pos (by omega)]
end EV
/-! sets -/
theorem Rm_isIn {m : Int64} {n : Nat} (h : n < 64) (σ : Hp) : cI rF nRm_isIn [sI (nI n), sJ m] σ = some (if hb m n = true then 1 else 0, σ) := by
  refine cI_of ((eRm_isIn (nI n) m σ).trans ?_)
  simp only [isIn_bit h, eRm_isIn_15]
  cases hb m n
  · rw [if_pos rfl, rz_0]; rfl
  · rw [if_neg (by simp), rz_1]; rfl
