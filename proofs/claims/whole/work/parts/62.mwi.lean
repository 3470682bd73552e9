/-! Messages on their way: the reference's rows, its send and take. -/
abbrev Ms : Type := Int32 × Int32 × Int32 × Int32 × Int32
def Row (I : Nat → Nat → Int32) (j : Nat) (m : Ms) : Prop := I 18 j = m.1 ∧ I 19 j = m.2.1 ∧ I 20 j = m.2.2.1 ∧ I 21 j = m.2.2.2.1 ∧ I 22 j = m.2.2.2.2
def MoM (I : Nat → Nat → Int32) (M : Nat → Ms) (c : Nat) : Prop := c ≤ 24 ∧ ∀ j, j < c → Row I j (M j) ∧ ((M j).2.2.2.2 = 0 ∨ (M j).2.2.2.2 = 1)
section MW
variable {σ : Hp} {o : Nat} {w : Int32 × Int32 × Int32} {I : Nat → Nat → Int32} {L : Nat → Nat → Int64}
theorem MoR.g18 (h : MoR σ o w I L) {j : Nat} (hj : j < 24) : alI σ (some (o + 18)) (nI j) = some (I 18 j) := h.aI 18 (by decide) (by decide) rfl hj
theorem MoR.g19 (h : MoR σ o w I L) {j : Nat} (hj : j < 24) : alI σ (some (o + 19)) (nI j) = some (I 19 j) := h.aI 19 (by decide) (by decide) rfl hj
theorem MoR.g20 (h : MoR σ o w I L) {j : Nat} (hj : j < 24) : alI σ (some (o + 20)) (nI j) = some (I 20 j) := h.aI 20 (by decide) (by decide) rfl hj
theorem MoR.g21 (h : MoR σ o w I L) {j : Nat} (hj : j < 24) : alI σ (some (o + 21)) (nI j) = some (I 21 j) := h.aI 21 (by decide) (by decide) rfl hj
theorem MoR.g22 (h : MoR σ o w I L) {j : Nat} (hj : j < 24) : alZ σ (some (o + 22)) (nI j) = some (I 22 j) := h.aZ 22 (by decide) (by decide) rfl hj
theorem MoR.p0 (h : MoR σ o w I L) (x : Int32) : pfI σ (some o) 8 0 x = some (hput σ o (moc o (x, w.2.1, w.2.2))) := pf_o h.1
theorem MoR.p2 (h : MoR σ o w I L) (x : Int32) : pfI σ (some o) 8 2 x = some (hput σ o (moc o (w.1, x, w.2.2))) := pf_o h.1
theorem MoR.p19 (h : MoR σ o w I L) (x : Int32) : pfI σ (some o) 8 19 x = some (hput σ o (moc o (w.1, w.2.1, x))) := pf_o h.1
/-- a row's five entries -/
def up5 (I : Nat → Nat → Int32) (j : Nat) (m : Ms) : Nat → Nat → Int32 := fun k i => if i = j then (if k = 18 then m.1 else if k = 19 then m.2.1 else if k = 20 then m.2.2.1 else if k = 21 then m.2.2.2.1 else if k = 22 then m.2.2.2.2 else I k i) else I k i
theorem up5_r (I : Nat → Nat → Int32) (j : Nat) (m : Ms) : Row (up5 I j m) j m := by
  unfold Row up5
  simp
theorem up5_n {I : Nat → Nat → Int32} {i j : Nat} {m m' : Ms} (h : i ≠ j) : Row (up5 I j m) i m' ↔ Row I i m' := by
  unfold Row up5
  simp [h]
theorem up5_k {I : Nat → Nat → Int32} {j k : Nat} {m : Ms} (h : k < 18) : up5 I j m k = I k := by
  funext i
  unfold up5
  split
  · rw [if_neg (by omega), if_neg (by omega), if_neg (by omega), if_neg (by omega), if_neg (by omega)]
  · rfl
theorem up5_c (I : Nat → Nat → Int32) (j : Nat) (m : Ms) : va_up (va_up (va_up (va_up (va_up I 18 (va_up (I 18) j m.1)) 19 (va_up (I 19) j m.2.1)) 20 (va_up (I 20) j m.2.2.1)) 21 (va_up (I 21) j m.2.2.2.1)) 22 (va_up (I 22) j m.2.2.2.2) = up5 I j m := by
  funext k i
  unfold up5 va_up
  by_cases k22 : k = 22
  · subst k22
    simp
  · by_cases k21 : k = 21
    · subst k21
      simp
    · by_cases k20 : k = 20
      · subst k20
        simp
      · by_cases k19 : k = 19
        · subst k19
          simp
        · by_cases k18 : k = 18
          · subst k18
            simp
          · simp [k18, k19, k20, k21, k22]
end MW
section MW2
variable {o : Nat} {w : Int32 × Int32 × Int32} {L : Nat → Nat → Int64}
/-- five writes, one after the other -/
theorem MoR.w5 {σ : Hp} {I : Nat → Nat → Int32} (h : MoR σ o w I L) {j : Nat} (hj : j < 24) (m : Ms) (hm : m.2.2.2.2 = 0 ∨ m.2.2.2.2 = 1) : ∃ s1 s2 s3 s4 s5, (asI σ (some (o + 18)) (nI j) m.1 = some s1 ∧ asI s1 (some (o + 19)) (nI j) m.2.1 = some s2 ∧ asI s2 (some (o + 20)) (nI j) m.2.2.1 = some s3 ∧ asI s3 (some (o + 21)) (nI j) m.2.2.2.1 = some s4 ∧ asZ s4 (some (o + 22)) (nI j) m.2.2.2.2 = some s5) ∧ (MoR s1 o w (va_up I 18 (va_up (I 18) j m.1)) L ∧ MoR s2 o w (va_up (va_up I 18 (va_up (I 18) j m.1)) 19 (va_up (I 19) j m.2.1)) L ∧ MoR s3 o w (va_up (va_up (va_up I 18 (va_up (I 18) j m.1)) 19 (va_up (I 19) j m.2.1)) 20 (va_up (I 20) j m.2.2.1)) L ∧ MoR s4 o w (va_up (va_up (va_up (va_up I 18 (va_up (I 18) j m.1)) 19 (va_up (I 19) j m.2.1)) 20 (va_up (I 20) j m.2.2.1)) 21 (va_up (I 21) j m.2.2.2.1)) L ∧ MoR s5 o w (up5 I j m) L) ∧ FrM o σ s5 := by
  obtain ⟨s1, w1, v1, f1⟩ := h.wI 18 (by decide) (by decide) (fun J => rfl) (show j < mlen 18 from hj) m.1
  obtain ⟨s2, w2, v2, f2⟩ := v1.wI 19 (by decide) (by decide) (fun J => rfl) (show j < mlen 19 from hj) m.2.1
  obtain ⟨s3, w3, v3, f3⟩ := v2.wI 20 (by decide) (by decide) (fun J => rfl) (show j < mlen 20 from hj) m.2.2.1
  obtain ⟨s4, w4, v4, f4⟩ := v3.wI 21 (by decide) (by decide) (fun J => rfl) (show j < mlen 21 from hj) m.2.2.2.1
  obtain ⟨s5, w5, v5, f5⟩ := v4.wZ 22 (by decide) (by decide) (fun J => rfl) (show j < mlen 22 from hj) hm
  refine ⟨s1, s2, s3, s4, s5, ⟨w1, w2, w3, w4, w5⟩, ⟨v1, v2, v3, v4, ?_⟩, (((f1.tr f2).tr f3).tr f4).tr f5⟩
  rw [← up5_c]
  exact v5
theorem Mo_send {σ : Hp} {I : Nat → Nat → Int32} {M : Nat → Ms} {c : Nat} (h : MoR σ o w I L) (hM : MoM I M c) (hw : w.2.2 = nI c) (a b d e : Int32) : ∃ σ1 I1, cV rF nMo_send [sA (some o), sI a, sI b, sI d, sI e] σ = some σ1 ∧ MoR σ1 o (w.1, w.2.1, nI (if c = 24 then 24 else c + 1)) I1 L ∧ (∀ k, k < 18 → I1 k = I k) ∧ MoM I1 (va_up M c (a, b, d, e, 0)) (if c = 24 then 24 else c + 1) ∧ FrM o σ σ1 := by
  obtain ⟨hc, hr⟩ := hM
  by_cases c24 : c = 24
  · subst c24
    have hw3 : (w.1, w.2.1, nI (if 24 = 24 then 24 else 24 + 1)) = w := by
      rw [if_pos rfl, ← hw]
    refine ⟨σ, I, cV_of ((eMo_send _ _ _ _ _ σ).trans ?_), by rw [hw3]; exact h, fun _ _ => rfl, ⟨by rw [if_pos rfl]; omega, fun j hj => ?_⟩, FrM.rf o σ⟩
    · have n1 : ¬ ¬ nI 24 = (24 : Int32) := by decide
      simp only [h.fly, hw, Option.bind_some, if_neg n1]
    · rw [if_pos rfl] at hj
      rw [va_up_ne _ _ (by omega)]
      exact hr j hj
  · have hlt : c < 24 := by omega
    obtain ⟨s1, s2, s3, s4, s5, ⟨w1, w2, w3, w4, w5⟩, ⟨v1, v2, v3, v4, v5⟩, f5⟩ := h.w5 hlt (a, b, d, e, 0) (Or.inl rfl)
    obtain ⟨v6, f6⟩ := v5.wS (w.1, w.2.1, nI (c + 1))
    rw [if_neg c24]
    refine ⟨_, _, cV_of ((eMo_send _ _ _ _ _ σ).trans ?_), v6, fun k hk => up5_k hk, ⟨by omega, fun j hj => ?_⟩, f5.tr f6⟩
    · have n1 : ¬ nI c = (24 : Int32) := fun z => by
        have := (nI_eq (a := c) (b := 24) (by omega) (by decide)).mp z
        omega
      simp only [h.fly, hw, Option.bind_some, if_pos n1, h.f20, w1, v1.f21, v1.fly, w2, v2.f22, v2.fly, w3, v3.f23, v3.fly, w4, v4.f24, v4.fly, w5, v5.fly, v5.p19, nI1]
    · by_cases cj : j = c
      · rw [cj, va_up_self]
        exact ⟨up5_r _ _ _, Or.inl rfl⟩
      · rw [va_up_ne _ _ cj, up5_n cj]
        exact hr j (by omega)
/-- one message taken out -/
def tks (M : Nat → Ms) (k : Nat) : Nat → Ms := fun j => if j < k then M j else M (j + 1)
theorem Mo_take_12 {M : Nat → Ms} {k c : Nat} (hc : c < 24) (hw : w.2.2 = nI c) (hM5 : ∀ j, j ≤ c → ((M j).2.2.2.2 = 0 ∨ (M j).2.2.2.2 = 1)) : ∀ (d n : Nat) (σ : Hp) (I : Nat → Nat → Int32), n + d = c → k ≤ n → MoR σ o w I L → (∀ j, j ≤ c → Row I j (if k ≤ j ∧ j < n then M (j + 1) else M j)) → ∃ σ1 I1, fMo_take_12 (some o) (nI n) σ = some (none, σ1) ∧ MoR σ1 o w I1 L ∧ (∀ i, i < 18 → I1 i = I i) ∧ (∀ j, j < c → Row I1 j (tks M k j)) ∧ FrM o σ σ1 := by
  intro d
  induction d with
  | zero =>
    intro n σ I hn hk h hr
    have : n = c := by omega
    subst this
    refine ⟨σ, I, ?_, h, fun _ _ => rfl, fun j hj => ?_, FrM.rf o σ⟩
    · rw [eMo_take_12]
      simp only [h.fly, hw, Option.bind_some, if_pos (show nI n ≤ nI n from (nI_leI (by omega) (by omega)).mpr (Nat.le_refl _))]
    · have := hr j (by omega)
      unfold tks
      by_cases cj : j < k
      · rw [if_neg (by omega)] at this
        rw [if_pos cj]
        exact this
      · rw [if_pos (by omega)] at this
        rw [if_neg cj]
        exact this
  | succ d ih =>
    intro n σ I hn hk h hr
    have hlt : n < c := by omega
    have r1 := hr (n + 1) (by omega)
    rw [if_neg (by omega)] at r1
    obtain ⟨e18, e19, e20, e21, e22⟩ := r1
    obtain ⟨s1, s2, s3, s4, s5, ⟨w1, w2, w3, w4, w5⟩, ⟨v1, v2, v3, v4, v5⟩, f5⟩ := h.w5 (show n < 24 by omega) (M (n + 1)) (hM5 (n + 1) (by omega))
    obtain ⟨σ2, I2, w6, v6, k6, r6, f6⟩ := ih (n + 1) s5 _ (by omega) (by omega) v5 (fun j hj => by
      by_cases cj : j = n
      · subst cj
        rw [if_pos (by omega)]
        exact up5_r _ _ _
      · rw [up5_n cj]
        have := hr j hj
        by_cases c2 : k ≤ j ∧ j < n
        · rw [if_pos c2] at this
          rw [if_pos (by omega)]
          exact this
        · rw [if_neg c2] at this
          rw [if_neg (by omega)]
          exact this)
    refine ⟨σ2, I2, ?_, v6, fun i hi => by rw [k6 i hi, up5_k hi], r6, f5.tr f6⟩
    have n1 : ¬ nI c ≤ nI n := fun z => by
      have := (nI_leI (a := c) (b := n) (by omega) (by omega)).mp z
      omega
    have h1 : n + 1 < 24 := by omega
    have g1 : alI σ (some (o + 18)) (nI (n + 1)) = some (M (n + 1)).1 := by rw [h.g18 h1, e18]
    have g2 : alI s1 (some (o + 19)) (nI (n + 1)) = some (M (n + 1)).2.1 := by rw [v1.g19 h1, va_up_ne _ _ (show 19 ≠ 18 by decide), e19]
    have g3 : alI s2 (some (o + 20)) (nI (n + 1)) = some (M (n + 1)).2.2.1 := by rw [v2.g20 h1, va_up_ne _ _ (show 20 ≠ 19 by decide), va_up_ne _ _ (show 20 ≠ 18 by decide), e20]
    have g4 : alI s3 (some (o + 21)) (nI (n + 1)) = some (M (n + 1)).2.2.2.1 := by rw [v3.g21 h1, va_up_ne _ _ (show 21 ≠ 20 by decide), va_up_ne _ _ (show 21 ≠ 19 by decide), va_up_ne _ _ (show 21 ≠ 18 by decide), e21]
    have g5 : alZ s4 (some (o + 22)) (nI (n + 1)) = some (M (n + 1)).2.2.2.2 := by rw [v4.g22 h1, va_up_ne _ _ (show 22 ≠ 21 by decide), va_up_ne _ _ (show 22 ≠ 20 by decide), va_up_ne _ _ (show 22 ≠ 19 by decide), va_up_ne _ _ (show 22 ≠ 18 by decide), e22]
    rw [eMo_take_12]
    simp only [h.fly, hw, Option.bind_some, if_neg n1, nI1, h.f20, g1, w1, v1.f21, g2, w2, v2.f22, g3, w3, v3.f23, g4, w4, v4.f24, g5, w5]
    exact w6
theorem Mo_take {σ : Hp} {I : Nat → Nat → Int32} {M : Nat → Ms} {k c : Nat} (hc : c < 24) (hk : k ≤ c) (hw : w.2.2 = nI (c + 1)) (h : MoR σ o w I L) (hM : MoM I M (c + 1)) : ∃ σ1 I1, cV rF nMo_take [sA (some o), sI (nI k)] σ = some σ1 ∧ MoR σ1 o (w.1, w.2.1, nI c) I1 L ∧ (∀ i, i < 18 → I1 i = I i) ∧ MoM I1 (tks M k) c ∧ FrM o σ σ1 := by
  obtain ⟨_, hr⟩ := hM
  obtain ⟨v1, f1⟩ := h.wS (w.1, w.2.1, nI c)
  obtain ⟨σ2, I2, w2, v2, k2, r2, f2⟩ := Mo_take_12 (o := o) (w := (w.1, w.2.1, nI c)) (L := L) (M := M) (k := k) hc rfl (fun j hj => (hr j (by omega)).2) (c - k) k _ I (by omega) (Nat.le_refl _) v1 (fun j hj => by
    rw [if_neg (by omega)]
    exact (hr j (by omega)).1)
  refine ⟨σ2, I2, cV_of ((eMo_take _ _ σ).trans ?_), v2, k2, ⟨by omega, fun j hj => ⟨r2 j hj, ?_⟩⟩, f1.tr f2⟩
  · have e1 : nI (c + 1) - (1 : Int32) = nI c := by
      rw [← nI1, Int32.add_sub_cancel]
    simp only [h.fly, hw, Option.bind_some, e1, h.p19]
    exact w2
  · unfold tks
    split
    · exact (hr j (by omega)).2
    · exact (hr (j + 1) (by omega)).2
end MW2
