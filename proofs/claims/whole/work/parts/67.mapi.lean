/-! The reference's tick, offset, flying, message, lose, spoil, status, ends. -/
theorem in_c {c : Nat} (hc : c ≤ 40) {x : Int32} (h1 : ¬ x < 0) (h2 : ¬ nI c ≤ x) : ∃ k, k < c ∧ x = nI k := by
  obtain ⟨n, hn, rfl⟩ := nI_of (x := x) h1
  refine ⟨n, ?_, rfl⟩
  by_cases q : c ≤ n
  · exact absurd ((nI_leI (a := c) (b := n) (by omega) hn).mpr q) h2
  · omega
theorem lastc {c : Nat} (hc : c ≤ 40) {x : Int32} (h1 : ¬ x < 0) (h2 : nI c ≤ x) : nI c - (1 : Int32) < x := by
  cases c with
  | zero =>
    have a : nI 0 - (1 : Int32) < 0 := by decide
    exact Int32.lt_of_lt_of_le a (Int32.not_lt.mp h1)
  | succ c =>
    have e1 : nI (c + 1) - (1 : Int32) = nI c := by
      rw [← nI1, Int32.add_sub_cancel]
    rw [e1]
    exact Int32.lt_of_lt_of_le ((nI_ltI (by omega) (by omega)).mpr (Nat.lt_succ_self c)) h2
theorem notlast {c k : Nat} (hc : c ≤ 40) (hk : k < c) : ¬ nI k < 0 ∧ ¬ nI c - (1 : Int32) < nI k := by
  refine ⟨fun z => ?_, fun z => ?_⟩
  · have := (nI_ltI (a := k) (b := 0) (by omega) (by decide)).mp z
    omega
  · cases c with
    | zero => omega
    | succ c =>
      have e1 : nI (c + 1) - (1 : Int32) = nI c := by
        rw [← nI1, Int32.add_sub_cancel]
      rw [e1] at z
      have := (nI_ltI (a := c) (b := k) (by omega) (by omega)).mp z
      omega
section MAPI
variable {σ : Hp} {o N c : Nat} {w : Int32 × Int32 × Int32} {I : Nat → Nat → Int32} {L : Nat → Nat → Int64} {E : Ed} {Q : Nat → Sv} {M : Nat → Ms}
theorem Mo_inw (hc : c ≤ 40) {k : Nat} (hk : k < c) (σ : Hp) : cI rF nMo_in [sI (nI k), sI (0 : Int32), sI (nI c - (1 : Int32))] σ = some (1, σ) := by
  obtain ⟨a, b⟩ := notlast hc hk
  rw [Mo_in, if_neg a, if_neg b]
theorem Mo_out (hc : c ≤ 40) {x : Int32} (hx : x < 0 ∨ nI c ≤ x) (σ : Hp) : cI rF nMo_in [sI x, sI (0 : Int32), sI (nI c - (1 : Int32))] σ = some (0, σ) := by
  rw [Mo_in]
  by_cases a : x < 0
  · rw [if_pos a]
  · rcases hx with z | z
    · exact absurd z a
    · rw [if_neg a, if_pos (lastc hc a z)]
theorem Mo_tick_ok (h : MoR σ o w I L) {n : Int32} (h1 : ¬ n < 0) (h2 : ¬ 1000 < n) : ∃ σ1, cI rF nMo_tick [sA (some o), sI n] σ = some (1, σ1) ∧ MoR σ1 o (w.1 + n, w.2.1, w.2.2) I L ∧ FrM o σ σ1 := by
  obtain ⟨v1, f1⟩ := h.wS (w.1 + n, w.2.1, w.2.2)
  refine ⟨_, cI_of ((eMo_tick _ _ σ).trans ?_), v1, f1⟩
  simp only [Mo_in, if_neg h1, if_neg h2, Option.bind_some, if_pos (show ¬ ((1 : Int32) = 0) by decide), h.now, h.p0, rz_1]
theorem Mo_tick_no {n : Int32} (hn : n < 0 ∨ 1000 < n) : cI rF nMo_tick [sA (some o), sI n] σ = some (0, σ) := by
  refine cI_of ((eMo_tick _ _ σ).trans ?_)
  have e : (if n < 0 then (0 : Int32) else if 1000 < n then 0 else 1) = 0 := by
    rcases hn with z | z
    · rw [if_pos z]
    · by_cases y : n < 0
      · rw [if_pos y]
      · rw [if_neg y, if_pos z]
  simp only [Mo_in, e, Option.bind_some]
  simp [rz_0]
theorem Mo_flying (h : MoR σ o w I L) : cI rF nMo_flying [sA (some o)] σ = some (w.2.2, σ) := by
  refine cI_of ((eMo_flying _ σ).trans ?_)
  simp only [h.fly, Option.bind_some]
theorem Mo_message (h : MoR σ o w I L) (hM : MoM I M c) (hw : w.2.2 = nI c) {k : Nat} (hk : k < c) : cI rF nMo_message [sA (some o), sI (nI k)] σ = some (cde (M k), σ) := by
  obtain ⟨hc, hr⟩ := hM
  obtain ⟨⟨e18, e19, e20, e21, e22⟩, _⟩ := hr k hk
  have hk24 : k < 24 := by omega
  refine cI_of ((eMo_message _ _ σ).trans ?_)
  simp only [h.fly, hw, Mo_inw (show c ≤ 40 by omega) hk, Option.bind_some, if_neg (show ¬ ((1 : Int32) = 0) by decide), h.f20, h.f21, h.f22, h.f23, h.f24, h.g18 hk24, h.g19 hk24, h.g20 hk24, h.g21 hk24, h.g22 hk24, e18, e19, e20, e21, e22, eMo_message_68, eMo_message_73]
  unfold cde
  split <;> rfl
theorem Mo_message_no (h : MoR σ o w I L) (hc : c ≤ 24) (hw : w.2.2 = nI c) {x : Int32} (hx : x < 0 ∨ nI c ≤ x) : cI rF nMo_message [sA (some o), sI x] σ = some (-1, σ) := by
  refine cI_of ((eMo_message _ _ σ).trans ?_)
  simp only [h.fly, hw, Mo_out (show c ≤ 40 by omega) hx, Option.bind_some, if_true, eMo_message_73]
end MAPI
