/-! The reference's prepare, whole. -/
theorem md3 : ∀ u, u < 6 → nI u - nI u / (3 : Int32) * (3 : Int32) = nI (u % 3) := by decide
/-- the value that an event takes -/
def vle (E : Ed) (g : Nat → Nat) (k t : Nat) (v : Int32) : Int32 := if k = 5 then lvw E g t v 0 6 0 else if k = 6 ∨ k = 7 then v else 0
section MPW
variable {o N : Nat} {w : Int32 × Int32 × Int32} {E : Ed} {g : Nat → Nat}
theorem Mo_pr_114 {σ : Hp} {I : Nat → Nat → Int32} {L : Nat → Nat → Int64} (hN : N < 40) (hg : gle g N) {u k t : Nat} (hu : u < 6) (hk1 : 1 ≤ k) (hk : k ≤ 7) (ht : t < 6) (h : MoR σ o w I L) (h9 : ∀ i, 1 ≤ i → i ≤ N → L 9 i = eC E i) (h12 : ∀ j, j < 9 → I 12 j = nI (g j)) (z : Int64) : ∃ σ1 L1, fMo_prepare_114 (some o) (nI u) (nI k) (nI t) z (nI (N + 1)) σ = some (none, σ1) ∧ MoR σ1 o w (va_up I 6 (va_up (I 6) (N + 1) (w.1 + I 1 (u % 3)))) L1 ∧ (∀ k n, n ≠ N + 1 → L1 k n = L k n) ∧ L1 7 (N + 1) = z ∧ L1 8 (N + 1) = aut g (nmd u k t) 0 9 0 ∧ L1 9 (N + 1) = chn E (aut g (nmd u k t) 0 9 0) 1 N (aut g (nmd u k t) 0 9 0) ∧ FrM o σ σ1 := by
  have he : N + 1 < 41 := by omega
  obtain ⟨s1, w1, v1, f1⟩ := h.wI 6 (by decide) (by decide) (fun J => rfl) (show N + 1 < mlen 6 from he) (w.1 + I 1 (u % 3))
  obtain ⟨s2, w2, v2, f2⟩ := v1.wJ 7 (by decide) (by decide) (fun J => rfl) (show N + 1 < mlen 7 from he) z
  obtain ⟨s3, w3, v3, f3⟩ := v2.wJ 8 (by decide) (by decide) (fun J => rfl) (show N + 1 < mlen 8 from he) 0
  have h12' : ∀ j, j < 9 → (va_up I 6 (va_up (I 6) (N + 1) (w.1 + I 1 (u % 3)))) 12 j = nI (g j) := fun j hj => by
    rw [va_up_ne _ _ (show 12 ≠ 6 by decide)]
    exact h12 j hj
  obtain ⟨s4, w4, v4, f4⟩ := Mo_pr_154 (o := o) (w := w) hN hg hu hk1 hk ht h12' 9 0 s3 _ rfl v3
  rw [va_up_self, va_up_self, up_up, up_up] at v4
  obtain ⟨s5, w5, v5, f5⟩ := v4.wJ 9 (by decide) (by decide) (fun J => rfl) (show N + 1 < mlen 9 from he) (aut g (nmd u k t) 0 9 0)
  obtain ⟨s6, w6, v6, f6⟩ := Mo_pr_297 (o := o) (w := w) (E := E) hN (aut g (nmd u k t) 0 9 0) N 1 s5 _ (Nat.le_refl _) (by omega) v5 (fun i i1 i2 => by
    rw [upN (by omega), upN (by omega), upN (by omega)]
    exact h9 i i1 i2) (by rw [va_up_ne _ _ (show 8 ≠ 9 by decide), va_up_self, va_up_self])
  refine ⟨s6, _, ?_, v6, fun k n hn => ?_, ?_, ?_, ?_, ((((f1.tr f2).tr f3).tr f4).tr f5).tr f6⟩
  · have g1 : alI σ (some (o + 1)) (nI (u % 3)) = some (I 1 (u % 3)) := h.aI 1 (by decide) (by decide) rfl (show u % 3 < mlen 1 from (by show u % 3 < 3; omega))
    rw [eMo_prepare_114]
    simp only [h.f7, h.now, h.f1, md3 u hu, g1, w1, v1.f8, w2, v2.f9, w3, Option.bind_some]
    refine Eq.trans (show fMo_prepare_154 (some o) (nI u) (nI k) (nI t) (nI (N + 1)) (0 : Int32) s3 = _ from w4) ?_
    have g2 : alJ s4 (some (o + 8)) (nI (N + 1)) = some (aut g (nmd u k t) 0 9 0) := by
      rw [v4.g8 he, va_up_self, va_up_self]
    rw [eMo_prepare_154, if_pos (show (9 : Int32) ≤ nI 9 by decide)]
    simp only [v4.f10, v4.f9, g2, w5, Option.bind_some]
    exact w6
  · rw [upN hn, upN hn, upN hn, upN hn]
  · rw [va_up_ne _ _ (show 7 ≠ 9 by decide), va_up_ne _ _ (show 7 ≠ 9 by decide), va_up_ne _ _ (show 7 ≠ 8 by decide), va_up_self, va_up_self]
  · rw [va_up_ne _ _ (show 8 ≠ 9 by decide), va_up_ne _ _ (show 8 ≠ 9 by decide), va_up_self, va_up_self]
  · rw [va_up_self, va_up_self, va_up_self, va_up_self]
theorem Mo_prepare {σ : Hp} {I : Nat → Nat → Int32} {L : Nat → Nat → Int64} (hN : N < 40) (hw : w.2.1 = nI N) (hg : gle g N) (h0 : g 0 = 1) (hs1 : eS E 1 = 0) {u k t : Nat} (hu : u < 6) (hk1 : 1 ≤ k) (hk : k ≤ 7) (ht : t < 6) (h : MoR σ o w I L) (hE : MoE I L E N) (h12 : ∀ j, j < 9 → I 12 j = nI (g j)) (v : Int32) (z : Int64) : ∃ σ1 I1 L1, cV rF nMo_prepare [sA (some o), sI (nI u), sI (nI k), sI (nI t), sI v, sJ z] σ = some σ1 ∧ MoR σ1 o w I1 L1 ∧ (∀ q n, n ≠ N + 1 → I1 q n = I q n) ∧ (∀ q, q < 2 ∨ 6 < q → I1 q = I q) ∧ (∀ q n, n ≠ N + 1 → L1 q n = L q n) ∧ (I1 2 (N + 1) = nI k ∧ I1 3 (N + 1) = nI u ∧ I1 4 (N + 1) = nI t ∧ I1 5 (N + 1) = vle E g k t v ∧ I1 6 (N + 1) = w.1 + I 1 (u % 3)) ∧ (L1 7 (N + 1) = z ∧ L1 8 (N + 1) = aut g (nmd u k t) 0 9 0 ∧ L1 9 (N + 1) = chn E (aut g (nmd u k t) 0 9 0) 1 N (aut g (nmd u k t) 0 9 0)) ∧ FrM o σ σ1 := by
  have he : N + 1 < 41 := by omega
  obtain ⟨s1, w1, v1, f1⟩ := h.wI 2 (by decide) (by decide) (fun J => rfl) (show N + 1 < mlen 2 from he) (nI k)
  obtain ⟨s2, w2, v2, f2⟩ := v1.wI 3 (by decide) (by decide) (fun J => rfl) (show N + 1 < mlen 3 from he) (nI u)
  obtain ⟨s3, w3, v3, f3⟩ := v2.wI 4 (by decide) (by decide) (fun J => rfl) (show N + 1 < mlen 4 from he) (nI t)
  obtain ⟨s4, w4, v4, f4⟩ := v3.wI 5 (by decide) (by decide) (fun J => rfl) (show N + 1 < mlen 5 from he) (if k = 6 ∨ k = 7 then v else 0)
  have k5 : (nI k = (5 : Int32)) ↔ k = 5 := nI_eq (a := k) (b := 5) (by omega) (by decide)
  have k6 : (nI k = (6 : Int32)) ↔ k = 6 := nI_eq (a := k) (b := 6) (by omega) (by decide)
  have k7 : (nI k = (7 : Int32)) ↔ k = 7 := nI_eq (a := k) (b := 7) (by omega) (by decide)
  have st : rF (mMo_prepare, 0, [(0, sA (some o)), (1, sI (nI u)), (2, sI (nI k)), (3, sI (nI t)), (4, sI v), (5, sJ z)], [], σ) = fMo_prepare_60 (some o) (nI u) (nI k) (nI t) v z (nI (N + 1)) (0 : Int32) s4 := by
    rw [eMo_prepare]
    simp only [h.made, hw, nI1, h.f3, w1, v1.f4, w2, v2.f5, w3, v3.f6, Option.bind_some, eMo_prepare_50, eMo_prepare_56, k6, k7]
    by_cases c6 : k = 6
    · rw [if_pos (Or.inl c6)] at w4
      simp only [if_pos c6, w4, Option.bind_some]
    · by_cases c7 : k = 7
      · rw [if_pos (Or.inr c7)] at w4
        have n7 : ¬ ¬ k = 7 := fun q => q c7
        simp only [if_neg c6, if_neg n7, w4, Option.bind_some]
      · have n67 : ¬ (k = 6 ∨ k = 7) := fun q => by omega
        rw [if_neg n67] at w4
        simp only [if_neg c6, if_pos c7, w4, Option.bind_some]
  have hE4 : MoE _ L E N := hE.pt (I1 := va_up (va_up (va_up (va_up I 2 (va_up (I 2) (N + 1) (nI k))) 3 (va_up ((va_up I 2 (va_up (I 2) (N + 1) (nI k))) 3) (N + 1) (nI u))) 4 (va_up ((va_up (va_up I 2 (va_up (I 2) (N + 1) (nI k))) 3 (va_up ((va_up I 2 (va_up (I 2) (N + 1) (nI k))) 3) (N + 1) (nI u))) 4) (N + 1) (nI t))) 5 (va_up ((va_up (va_up (va_up I 2 (va_up (I 2) (N + 1) (nI k))) 3 (va_up ((va_up I 2 (va_up (I 2) (N + 1) (nI k))) 3) (N + 1) (nI u))) 4 (va_up ((va_up (va_up I 2 (va_up (I 2) (N + 1) (nI k))) 3 (va_up ((va_up I 2 (va_up (I 2) (N + 1) (nI k))) 3) (N + 1) (nI u))) 4) (N + 1) (nI t))) 5) (N + 1) (if k = 6 ∨ k = 7 then v else 0))) (fun q n hn => by rw [upN (by omega), upN (by omega), upN (by omega), upN (by omega)]) (fun _ _ _ => rfl)
  generalize hI4 : va_up (va_up (va_up (va_up I 2 (va_up (I 2) (N + 1) (nI k))) 3 (va_up ((va_up I 2 (va_up (I 2) (N + 1) (nI k))) 3) (N + 1) (nI u))) 4 (va_up ((va_up (va_up I 2 (va_up (I 2) (N + 1) (nI k))) 3 (va_up ((va_up I 2 (va_up (I 2) (N + 1) (nI k))) 3) (N + 1) (nI u))) 4) (N + 1) (nI t))) 5 (va_up ((va_up (va_up (va_up I 2 (va_up (I 2) (N + 1) (nI k))) 3 (va_up ((va_up I 2 (va_up (I 2) (N + 1) (nI k))) 3) (N + 1) (nI u))) 4 (va_up ((va_up (va_up I 2 (va_up (I 2) (N + 1) (nI k))) 3 (va_up ((va_up I 2 (va_up (I 2) (N + 1) (nI k))) 3) (N + 1) (nI u))) 4) (N + 1) (nI t))) 5) (N + 1) (if k = 6 ∨ k = 7 then v else 0)) = I4 at v4 hE4
  have a1 : ∀ q n, n ≠ N + 1 → I4 q n = I q n := fun q n hn => by
    rw [← hI4, upN hn, upN hn, upN hn, upN hn]
  have a2 : ∀ q, q < 2 ∨ 6 < q → I4 q = I q := fun q hq => by
    rw [← hI4, va_up_ne _ _ (by omega), va_up_ne _ _ (by omega), va_up_ne _ _ (by omega), va_up_ne _ _ (by omega)]
  have b2 : I4 2 (N + 1) = nI k := by
    rw [← hI4, va_up_ne _ _ (show 2 ≠ 5 by decide), va_up_ne _ _ (show 2 ≠ 4 by decide), va_up_ne _ _ (show 2 ≠ 3 by decide), va_up_self, va_up_self]
  have b3 : I4 3 (N + 1) = nI u := by
    rw [← hI4, va_up_ne _ _ (show 3 ≠ 5 by decide), va_up_ne _ _ (show 3 ≠ 4 by decide), va_up_self, va_up_self]
  have b4 : I4 4 (N + 1) = nI t := by
    rw [← hI4, va_up_ne _ _ (show 4 ≠ 5 by decide), va_up_self, va_up_self]
  have b5 : I4 5 (N + 1) = if k = 6 ∨ k = 7 then v else 0 := by
    rw [← hI4, va_up_self, va_up_self]
  have h9 : ∀ i, 1 ≤ i → i ≤ N → L 9 i = eC E i := fun i i1 i2 => (hE i i1 i2).2.2.2.2.2.2.2
  by_cases c5 : k = 5
  · subst c5
    obtain ⟨s5, w5, v5, f5⟩ := Mo_pr_60 (o := o) (w := w) (t := t) hN h0 hs1 hg v (nI u) z 6 0 s4 I4 rfl v4 hE4 (fun j hj => by rw [a2 12 (by omega)]; exact h12 j hj)
    obtain ⟨s6, L6, w6, v6, l6, x7, x8, x9, f6⟩ := Mo_pr_114 (o := o) (w := w) (E := E) hN hg hu hk1 hk ht v5 h9 (fun j hj => by rw [va_up_ne _ _ (show 12 ≠ 5 by decide), a2 12 (by omega)]; exact h12 j hj) z
    refine ⟨s6, _, L6, cV_of (st.trans ((show fMo_prepare_60 (some o) (nI u) (5 : Int32) (nI t) v z (nI (N + 1)) (0 : Int32) s4 = _ from w5).trans w6)), v6, fun q n hn => ?_, fun q hq => ?_, l6, ⟨?_, ?_, ?_, ?_, ?_⟩, ⟨x7, x8, x9⟩, ((((f1.tr f2).tr f3).tr f4).tr f5).tr f6⟩
    · rw [upN hn, upN hn]
      exact a1 q n hn
    · rw [va_up_ne _ _ (by omega), va_up_ne _ _ (by omega)]
      exact a2 q hq
    · rw [va_up_ne _ _ (show 2 ≠ 6 by decide), va_up_ne _ _ (show 2 ≠ 5 by decide)]
      exact b2
    · rw [va_up_ne _ _ (show 3 ≠ 6 by decide), va_up_ne _ _ (show 3 ≠ 5 by decide)]
      exact b3
    · rw [va_up_ne _ _ (show 4 ≠ 6 by decide), va_up_ne _ _ (show 4 ≠ 5 by decide)]
      exact b4
    · rw [va_up_ne _ _ (show 5 ≠ 6 by decide), va_up_self, va_up_self, b5]
      rfl
    · rw [va_up_self, va_up_self, va_up_ne _ _ (show 1 ≠ 5 by decide), a2 1 (by omega)]
  · obtain ⟨s6, L6, w6, v6, l6, x7, x8, x9, f6⟩ := Mo_pr_114 (o := o) (w := w) (E := E) hN hg hu hk1 hk ht v4 h9 (fun j hj => by rw [a2 12 (by omega)]; exact h12 j hj) z
    have n5 : ¬ nI k = (5 : Int32) := fun q => c5 (k5.mp q)
    refine ⟨s6, _, L6, cV_of (st.trans ?_), v6, fun q n hn => ?_, fun q hq => ?_, l6, ⟨?_, ?_, ?_, ?_, ?_⟩, ⟨x7, x8, x9⟩, (((f1.tr f2).tr f3).tr f4).tr f6⟩
    · rw [eMo_prepare_60, if_neg (show ¬ (6 : Int32) ≤ 0 by decide), if_pos n5]
      exact w6
    · rw [upN hn]
      exact a1 q n hn
    · rw [va_up_ne _ _ (by omega)]
      exact a2 q hq
    · rw [va_up_ne _ _ (show 2 ≠ 6 by decide)]
      exact b2
    · rw [va_up_ne _ _ (show 3 ≠ 6 by decide)]
      exact b3
    · rw [va_up_ne _ _ (show 4 ≠ 6 by decide)]
      exact b4
    · rw [va_up_ne _ _ (show 5 ≠ 6 by decide), b5]
      unfold vle
      rw [if_neg c5]
    · rw [va_up_self, va_up_self, a2 1 (by omega)]
end MPW
