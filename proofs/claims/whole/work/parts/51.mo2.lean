/-! The reference's writes; gather. -/
def FrM (o : Nat) (σ σ1 : Hp) : Prop := σ1.1 = σ.1 ∧ σ1.2.1 = σ.2.1 ∧ ∀ a, (a < o ∨ o + 22 < a) → σ1.2.2 a = σ.2.2 a
theorem FrM.rf (o : Nat) (σ : Hp) : FrM o σ σ := ⟨rfl, rfl, fun _ _ => rfl⟩
theorem FrM.tr {o : Nat} {a b c : Hp} (h1 : FrM o a b) (h2 : FrM o b c) : FrM o a c := ⟨h2.1.trans h1.1, h2.2.1.trans h1.2.1, fun x hx => (h2.2.2 x hx).trans (h1.2.2 x hx)⟩
theorem FrM.w {o k : Nat} {σ : Hp} {c : Cl} (hk : k ≤ 22) : FrM o σ (hput σ (o + k) c) := ⟨rfl, rfl, fun a ha => hput_ne (by omega)⟩
theorem mcell_ne {I : Nat → Nat → Int32} {L : Nat → Nat → Int64} {k k' : Nat} {f : Nat → Int32} (h : k' ≠ k) : mcell (va_up I k f) L k' = mcell I L k' := by
  unfold mcell
  rw [va_up_ne _ _ h]
theorem mcell_neL {I : Nat → Nat → Int32} {L : Nat → Nat → Int64} {k k' : Nat} {f : Nat → Int64} (h : k' ≠ k) : mcell I (va_up L k f) k' = mcell I L k' := by
  unfold mcell
  rw [va_up_ne _ _ h]
def isJ (k : Nat) : Bool := Nat.beq k 7 || (Nat.beq k 8 || Nat.beq k 9)
def isZ (k : Nat) : Bool := Nat.beq k 10 || (Nat.beq k 15 || Nat.beq k 22)
section MOW
variable {σ : Hp} {o : Nat} {w : Int32 × Int32 × Int32} {I : Nat → Nat → Int32} {L : Nat → Nat → Int64}
theorem MoR.wI (h : MoR σ o w I L) (k : Nat) (h1 : 1 ≤ k) (h2 : k ≤ 22) (hc : ∀ J : Nat → Nat → Int32, mcell J L k = .inl (0, mlen k, .inl (J k))) {j : Nat} (hj : j < mlen k) (x : Int32) : ∃ σ1, asI σ (some (o + k)) (nI j) x = some σ1 ∧ MoR σ1 o w (va_up I k (va_up (I k) j x)) L ∧ FrM o σ σ1 := by
  refine ⟨_, asI_o (by rw [h.2 k h1 h2, hc]) hj (mlen_lt k), ⟨?_, fun q q1 q2 => ?_⟩, FrM.w h2⟩
  · rw [hput_ne (by omega)]
    exact h.1
  · by_cases e : q = k
    · subst e
      rw [hput_same, hc, va_up_self]
    · rw [hput_ne (by omega), mcell_ne e]
      exact h.2 q q1 q2
theorem MoR.wZ (h : MoR σ o w I L) (k : Nat) (h1 : 1 ≤ k) (h2 : k ≤ 22) (hc : ∀ J : Nat → Nat → Int32, mcell J L k = .inl (2, mlen k, .inl (J k))) {j : Nat} (hj : j < mlen k) {x : Int32} (hx : x = 0 ∨ x = 1) : ∃ σ1, asZ σ (some (o + k)) (nI j) x = some σ1 ∧ MoR σ1 o w (va_up I k (va_up (I k) j x)) L ∧ FrM o σ σ1 := by
  refine ⟨_, asZ_o (by rw [h.2 k h1 h2, hc]) hj (mlen_lt k) hx, ⟨?_, fun q q1 q2 => ?_⟩, FrM.w h2⟩
  · rw [hput_ne (by omega)]
    exact h.1
  · by_cases e : q = k
    · subst e
      rw [hput_same, hc, va_up_self]
    · rw [hput_ne (by omega), mcell_ne e]
      exact h.2 q q1 q2
theorem MoR.wJ (h : MoR σ o w I L) (k : Nat) (h1 : 1 ≤ k) (h2 : k ≤ 22) (hc : ∀ J : Nat → Nat → Int64, mcell I J k = .inl (1, mlen k, .inr (.inl (J k)))) {j : Nat} (hj : j < mlen k) (x : Int64) : ∃ σ1, asJ σ (some (o + k)) (nI j) x = some σ1 ∧ MoR σ1 o w I (va_up L k (va_up (L k) j x)) ∧ FrM o σ σ1 := by
  refine ⟨_, asJ_o (by rw [h.2 k h1 h2, hc]) hj (mlen_lt k), ⟨?_, fun q q1 q2 => ?_⟩, FrM.w h2⟩
  · rw [hput_ne (by omega)]
    exact h.1
  · by_cases e : q = k
    · subst e
      rw [hput_same, hc, va_up_self]
    · rw [hput_ne (by omega), mcell_neL e]
      exact h.2 q q1 q2
/-- a scalar of the reference is written -/
theorem MoR.wS (h : MoR σ o w I L) (w2 : Int32 × Int32 × Int32) : MoR (hput σ o (moc o w2)) o w2 I L ∧ FrM o σ (hput σ o (moc o w2)) := by
  refine ⟨⟨hput_same _ _ _, fun q q1 q2 => ?_⟩, rfl, rfl, fun a ha => hput_ne (by omega)⟩
  rw [hput_ne (by omega)]
  exact h.2 q q1 q2
end MOW
theorem i41 {i : Nat} (h : i < 41) : ¬ (41 : Int32) ≤ nI i := nI_ge (b := 41) h (by decide)
/-- an event's auths by key and as a set are the same -/
def AuI (E : Ed) (N e : Nat) : Prop := (∀ n, hb (eU E e) n = true → 1 ≤ n ∧ n ≤ N ∧ eK E n ≤ 7 ∧ eK E n ≠ 7 ∧ eT E n < 6 ∧ eA E e (kyN E n) = n) ∧ ∀ k, k < 9 → eA E e k ≠ 0 → hb (eU E e) (eA E e k) = true ∧ kyN E (eA E e k) = k
section GAT
variable {o e N : Nat} {w : Int32 × Int32 × Int32} {L : Nat → Nat → Int64} {E : Ed}
theorem Mo_gather_2 : ∀ (d i : Nat) (σ : Hp) (I : Nat → Nat → Int32), i + d = 9 → MoR σ o w I L → (∀ j, j < i → I 14 j = 0) → ∃ σ1 f, fMo_gather_2 (some o) (nI e) (nI i) σ = fMo_gather_23 (some o) (nI e) (1 : Int32) σ1 ∧ MoR σ1 o w (va_up I 14 f) L ∧ (∀ j, j < 9 → f j = 0) ∧ FrM o σ σ1 := by
  intro d
  induction d with
  | zero =>
    intro i σ I hi h h0
    have : i = 9 := by omega
    subst this
    refine ⟨σ, I 14, ?_, by rw [up_id rfl]; exact h, h0, FrM.rf o σ⟩
    rw [eMo_gather_2, if_pos (show (9 : Int32) ≤ nI 9 by decide)]
  | succ d ih =>
    intro i σ I hi h h0
    have hi9 : i < 9 := by omega
    obtain ⟨σ1, w1, v1, f1⟩ := h.wI 14 (by decide) (by decide) (fun J => rfl) (show i < mlen 14 from hi9) 0
    obtain ⟨σ2, f, w2, v2, e2, f2⟩ := ih (i + 1) σ1 _ (by omega) v1 (fun j hj => by
      rw [va_up_self]
      by_cases c : j = i
      · rw [c, va_up_self]
      · rw [va_up_ne _ _ c]
        exact h0 j (by omega))
    refine ⟨σ2, f, ?_, by rw [up_up] at v2; exact v2, e2, f1.tr f2⟩
    rw [eMo_gather_2, if_neg (i9 hi9)]
    simp only [h.f15, w1, Option.bind_some, nI1, w2]
theorem Mo_gather_23 (hN : N ≤ 40) (he : e < 41) (hA : AuI E N e) (hle : gle (eA E e) N) : ∀ (d n : Nat) (σ : Hp) (I : Nat → Nat → Int32), 1 ≤ n → n + d = 41 → MoR σ o w I L → MoE I L E N → L 8 e = eU E e → (∀ j, j < 9 → I 14 j = if eA E e j < n then nI (eA E e j) else 0) → ∃ σ1 f, fMo_gather_23 (some o) (nI e) (nI n) σ = some (none, σ1) ∧ MoR σ1 o w (va_up I 14 f) L ∧ (∀ j, j < 9 → f j = nI (eA E e j)) ∧ FrM o σ σ1 := by
  intro d
  induction d with
  | zero =>
    intro n σ I hn1 hn h hE hL h0
    have : n = 41 := by omega
    subst this
    refine ⟨σ, I 14, ?_, by rw [up_id rfl]; exact h, fun j hj => ?_, FrM.rf o σ⟩
    · rw [eMo_gather_23, if_pos (show (41 : Int32) ≤ nI 41 by decide)]
    · have := hle j hj
      rw [h0 j hj, if_pos (by omega)]
  | succ d ih =>
    intro n σ I hn1 hn h hE hL h0
    have hn41 : n < 41 := by omega
    rw [eMo_gather_23, if_neg (i41 hn41)]
    simp only [h.f9, h.g8 he, hL, Mo_has (show n < 64 by omega), Option.bind_some, eMo_gather_53, nI1]
    cases hbn : hb (eU E e) n
    · have hx := ih (n + 1) σ I (by omega) (by omega) h hE hL (fun j hj => ?_)
      · simpa using hx
      · rw [h0 j hj]
        by_cases c : eA E e j = n
        · exfalso
          have := (hA.2 j hj (by omega)).1
          rw [c, hbn] at this
          cases this
        · by_cases c2 : eA E e j < n
          · rw [if_pos c2, if_pos (by omega)]
          · rw [if_neg c2, if_neg (by omega)]
    · obtain ⟨a1, a2, a3, a4, a5, a6⟩ := hA.1 n hbn
      have hk := Mo_key h hE a1 a2 hN a3
      rw [kyI_N a4] at hk
      have hk9 := kyN_lt a5
      obtain ⟨σ1, w1, v1, f1⟩ := h.wI 14 (by decide) (by decide) (fun J => rfl) (show kyN E n < mlen 14 from hk9) (nI n)
      have hE1 : MoE (va_up I 14 (va_up (I 14) (kyN E n) (nI n))) L E N := by
        intro q q1 q2
        have := hE q q1 q2
        simpa [va_up] using this
      obtain ⟨σ2, f, w2, v2, e2, f2⟩ := ih (n + 1) σ1 _ (by omega) (by omega) v1 hE1 hL (fun j hj => by
        rw [va_up_self]
        by_cases c : j = kyN E n
        · rw [c, va_up_self, a6, if_pos (by omega)]
        · rw [va_up_ne _ _ c, h0 j hj]
          have hne : eA E e j ≠ n := by
            intro q
            have := (hA.2 j hj (by omega)).2
            rw [q] at this
            exact c this.symm
          by_cases c2 : eA E e j < n
          · rw [if_pos c2, if_pos (by omega)]
          · rw [if_neg c2, if_neg (by omega)])
      refine ⟨σ2, f, ?_, by rw [up_up] at v2; exact v2, e2, f1.tr f2⟩
      simp [h.f15, h.rc, hk, w1, w2]
theorem Mo_gather {σ : Hp} {I : Nat → Nat → Int32} (hN : N ≤ 40) (he : e < 41) (hA : AuI E N e) (hle : gle (eA E e) N) (h : MoR σ o w I L) (hE : MoE I L E N) (hL : L 8 e = eU E e) : ∃ σ1 f, cV rF nMo_gather [sA (some o), sI (nI e)] σ = some σ1 ∧ MoR σ1 o w (va_up I 14 f) L ∧ (∀ j, j < 9 → f j = nI (eA E e j)) ∧ FrM o σ σ1 := by
  obtain ⟨σ1, f, w1, v1, e1, f1⟩ := Mo_gather_2 (o := o) (e := e) (w := w) (L := L) 9 0 σ I rfl h (fun j hj => by omega)
  have hE1 : MoE (va_up I 14 f) L E N := by
    intro q q1 q2
    have := hE q q1 q2
    simpa [va_up] using this
  obtain ⟨σ2, f2, w2, v2, e2, fr2⟩ := Mo_gather_23 hN he hA hle 40 1 σ1 _ (Nat.le_refl _) (by omega) v1 hE1 hL (fun j hj => by
    rw [va_up_self, e1 j hj]
    by_cases c : eA E e j < 1
    · rw [if_pos c, show eA E e j = 0 by omega]; rfl
    · rw [if_neg c])
  refine ⟨σ2, f2, cV_of (((eMo_gather _ _ σ).trans w1).trans w2), by rw [up_up] at v2; exact v2, e2, f1.tr fr2⟩
end GAT
