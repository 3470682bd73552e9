/-! The class's Wire.take; the reference's readings of messages, standings and clocks. -/
section WT
variable {wi wa c k : Nat} {ma : Nat → Nat} {M : Nat → Ms}
def tkm (ma : Nat → Nat) (k : Nat) : Nat → Nat := fun j => if j < k then ma j else ma (j + 1)
theorem Wi_take_22 (hc : c < 24) (y : Option Nat) : ∀ (d n : Nat) (σ : Hp) (f : Nat → Option Nat), n + d = c → k ≤ n → σ.2.2 wi = some (.inr (7, [sA (some wa), sI (nI c)])) → σ.2.2 wa = some (.inl (4, 24, .inr (.inr f))) → (∀ j, j ≤ c → f j = some (ma (if k ≤ j ∧ j < n then j + 1 else j))) → (∀ j, j ≤ c → σ.2.2 (ma j) = some (msc (M j))) → ∃ f1, fWi_take_22 (some wi) y (nI n) σ = some (some (sA y), hput σ wa (.inl (4, 24, .inr (.inr f1)))) ∧ ∀ j, j < c → f1 j = some (tkm ma k j) := by
  intro d
  induction d with
  | zero =>
    intro n σ f hn hk h1 h2 h3 h4
    have : n = c := by omega
    subst this
    have g1 : gfI σ (some wi) 7 1 = some (nI n) := gfI_o h1 rfl
    have g2 : gfA σ (some wi) 7 0 = some (some wa) := gfA_o h1 rfl
    have p1 : nI n ≤ nI n := (nI_leI (by omega) (by omega)).mpr (Nat.le_refl _)
    have s1 : asA σ (some wa) (nI n) none = some (hput σ wa (.inl (4, 24, .inr (.inr (va_up f n none))))) := asA_o h2 rfl hc (by decide) (rok_n σ 3)
    refine ⟨va_up f n none, ?_, fun j hj => ?_⟩
    · rw [eWi_take_22]
      simp only [g1, g2, Option.bind_some, if_pos p1, s1, eWi_take_60]
    · rw [va_up_ne _ _ (by omega), h3 j (by omega)]
      unfold tkm
      by_cases cj : j < k
      · rw [if_neg (by omega), if_pos cj]
      · rw [if_pos (by omega), if_neg cj]
  | succ d ih =>
    intro n σ f hn hk h1 h2 h3 h4
    have hlt : n < c := by omega
    have g1 : gfI σ (some wi) 7 1 = some (nI c) := gfI_o h1 rfl
    have g2 : gfA σ (some wi) 7 0 = some (some wa) := gfA_o h1 rfl
    have n1 : ¬ nI c ≤ nI n := fun z => by
      have := (nI_leI (a := c) (b := n) (by omega) (by omega)).mp z
      omega
    have e1 := h3 (n + 1) (by omega)
    rw [if_neg (by omega)] at e1
    have g3 : alA σ (some wa) (nI (n + 1)) = some (some (ma (n + 1))) := (alA_o h2 rfl (by omega) (by decide)).trans (by rw [e1])
    have s1 : asA σ (some wa) (nI n) (some (ma (n + 1))) = some (hput σ wa (.inl (4, 24, .inr (.inr (va_up f n (some (ma (n + 1)))))))) := asA_o h2 rfl (by omega) (by decide) (rok_o (h4 (n + 1) (by omega)))
    have hne : wi ≠ wa := fun z => by
      rw [z, h2] at h1
      cases h1
    obtain ⟨f1, w1, r1⟩ := ih (n + 1) (hput σ wa (.inl (4, 24, .inr (.inr (va_up f n (some (ma (n + 1)))))))) (va_up f n (some (ma (n + 1)))) (by omega) (by omega) ((hput_ne hne).trans h1) (hput_same _ _ _) (fun j hj => by
      by_cases cj : j = n
      · rw [cj, va_up_self, if_pos (by omega)]
      · rw [va_up_ne _ _ cj, h3 j hj]
        by_cases c2 : k ≤ j ∧ j < n
        · rw [if_pos c2, if_pos (by omega)]
        · rw [if_neg c2, if_neg (by omega)]) (fun j hj => by
      refine (hput_ne (fun z => ?_)).trans (h4 j hj)
      have := h4 j hj
      rw [z, h2] at this
      cases this)
    refine ⟨f1, ?_, r1⟩
    rw [eWi_take_22]
    simp only [g1, g2, Option.bind_some, if_neg n1, nI1, g3, s1, w1, hput_hput]
theorem Wi_take {σ : Hp} (hc : c < 24) (hk : k ≤ c) (h : WiR σ wi wa ma M (c + 1)) : ∃ σ1, cA rF nWi_take [sA (some wi), sI (nI k)] σ = some (some (ma k), σ1) ∧ WiR σ1 wi wa (tkm ma k) (tks M k) c ∧ σ1.2.2 (ma k) = some (msc (M k)) ∧ σ1.1 = σ.1 ∧ σ1.2.1 = σ.2.1 ∧ ∀ a, a ≠ wi → a ≠ wa → σ1.2.2 a = σ.2.2 a := by
  have hfind := Wi_find h (show k < c + 1 by omega)
  have hrc := h.rc
  obtain ⟨h1, ⟨f, h2, h3⟩, h4, h5, h6⟩ := h
  have hne : wi ≠ wa := fun z => by
    rw [z, h2] at h1
    cases h1
  have hnm : ∀ j, j ≤ c → ma j ≠ wi ∧ ma j ≠ wa := fun j hj => by
    have hj4 := h4 j (by omega)
    refine ⟨fun z => ?_, fun z => ?_⟩
    · rw [z, h1] at hj4
      injection hj4 with q
      injection q with q
      injection q with q1 q2
      cases q1
    · rw [z, h2] at hj4
      cases hj4
  have g1 : gfI σ (some wi) 7 1 = some (nI (c + 1)) := gfI_o h1 rfl
  have p1 : pfI σ (some wi) 7 1 (nI c) = some (hput σ wi (.inr (7, [sA (some wa), sI (nI c)]))) := pf_o h1
  obtain ⟨f1, w1, r1⟩ := Wi_take_22 (wi := wi) (wa := wa) (k := k) (ma := ma) (M := M) hc (some (ma k)) (c - k) k (hput σ wi (.inr (7, [sA (some wa), sI (nI c)]))) f (by omega) (Nat.le_refl _) (hput_same _ _ _) ((hput_ne (fun z => hne z.symm)).trans h2) (fun j hj => by
    rw [if_neg (by omega)]
    exact h3 j (by omega)) (fun j hj => (hput_ne (hnm j hj).1).trans (h4 j (by omega)))
  have e1 : nI (c + 1) - (1 : Int32) = nI c := by
    rw [← nI1, Int32.add_sub_cancel]
  have nn : ¬ (some (ma k) = none) := fun z => by cases z
  refine ⟨hput (hput σ wi (.inr (7, [sA (some wa), sI (nI c)]))) wa (.inl (4, 24, .inr (.inr f1))), cA_of ((eWi_take _ _ σ).trans ?_), ⟨?_, ⟨f1, hput_same _ _ _, r1⟩, fun j hj => ?_, fun i j hi hj q => ?_, by omega⟩, ?_, rfl, rfl, fun a ha hb => ?_⟩
  · simp only [hrc, hfind, Option.bind_some, if_neg nn, g1, e1, p1]
    exact w1
  · exact (hput_ne hne).trans (hput_same _ _ _)
  · unfold tkm tks
    by_cases cj : j < k
    · rw [if_pos cj, if_pos cj, hput_ne (hnm j (by omega)).2, hput_ne (hnm j (by omega)).1]
      exact h4 j (by omega)
    · rw [if_neg cj, if_neg cj, hput_ne (hnm (j + 1) (by omega)).2, hput_ne (hnm (j + 1) (by omega)).1]
      exact h4 (j + 1) (by omega)
  · unfold tkm at q
    by_cases ci : i < k
    · by_cases cj : j < k
      · rw [if_pos ci, if_pos cj] at q
        exact h5 i j (by omega) (by omega) q
      · rw [if_pos ci, if_neg cj] at q
        have := h5 i (j + 1) (by omega) (by omega) q
        omega
    · by_cases cj : j < k
      · rw [if_neg ci, if_pos cj] at q
        have := h5 (i + 1) j (by omega) (by omega) q
        omega
      · rw [if_neg ci, if_neg cj] at q
        have := h5 (i + 1) (j + 1) (by omega) (by omega) q
        omega
  · rw [hput_ne (hnm k hk).2, hput_ne (hnm k hk).1]
    exact h4 k (by omega)
  · rw [hput_ne hb, hput_ne ha]
end WT
