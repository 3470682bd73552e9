/-! The resolver's methods, as functions of what its cells hold. -/
def FrR (P : Pa) (σ σ1 : Hp) : Prop := σ1.1 = σ.1 ∧ σ1.2.1 = σ.2.1 ∧ ∀ a, (a ≠ pd P 3 ∧ a ≠ pd P 5 ∧ a ≠ pd P 7 ∧ a ≠ pd P 8 ∧ a ≠ pd P 9 ∧ a ≠ pd P 11) → σ1.2.2 a = σ.2.2 a
theorem FrR.rf (P : Pa) (σ : Hp) : FrR P σ σ := ⟨rfl, rfl, fun _ _ => rfl⟩
theorem FrR.tr {P : Pa} {a b c : Hp} (h1 : FrR P a b) (h2 : FrR P b c) : FrR P a c := ⟨h2.1.trans h1.1, h2.2.1.trans h1.2.1, fun x hx => (h2.2.2 x hx).trans (h1.2.2 x hx)⟩
theorem FrR.w {P : Pa} {σ σ1 : Hp} {i : Nat} (hi : i = 3 ∨ i = 5 ∨ i = 7 ∨ i = 8 ∨ i = 9 ∨ i = 11) (h : ∃ c, σ1 = hput σ (pd P i) c) : FrR P σ σ1 := by
  obtain ⟨c, rfl⟩ := h
  refine ⟨rfl, rfl, fun a ha => hput_ne ?_⟩
  rcases hi with rfl | rfl | rfl | rfl | rfl | rfl
  · exact ha.1
  · exact ha.2.1
  · exact ha.2.2.1
  · exact ha.2.2.2.1
  · exact ha.2.2.2.2.1
  · exact ha.2.2.2.2.2
theorem nN {N n : Nat} (hN : N ≤ 40) (h : n ≤ N) : ¬ nI N < nI n := fun q => by
  have := (nI_ltI (a := N) (b := n) (by omega) (by omega)).mp q
  omega
theorem nN1 {N : Nat} (hN : N ≤ 40) : nI N < nI (N + 1) := (nI_ltI (by omega) (by omega)).mpr (by omega)
theorem gle_up {g : Nat → Nat} {N k n : Nat} (h : gle g N) (hn : n ≤ N) : gle (va_up g k n) N := by
  intro j hj
  by_cases e : j = k
  · rw [e, va_up_self]; exact hn
  · rw [va_up_ne _ _ e]; exact h j hj
section RE
variable {σ : Hp} {P : Pa} {E : Ed} {N : Nat} {ag ml pl : Nat → Int32} {gA gT gR : Nat → Nat}
def drp (F : Nat → Nat) : Nat → Nat → (Nat → Int32) × (Nat → Nat) → (Nat → Int32) × (Nat → Nat)
  | _, 0, q => q
  | i, d + 1, q => drp F (i + 1) d (if F i = q.2 i then q else (va_up q.1 i 0, va_up q.2 i 0))
theorem Re_drop_2 (hS : RS P E N) {n : Nat} (h1 : 1 ≤ n) (h2 : n ≤ N) : ∀ (d i : Nat) (σ : Hp) (ag : Nat → Int32) (gA : Nat → Nat), i + d = 9 → RV σ P E N ag gA gT gR ml pl → gle gA N → ∃ σ1, fRe_dropDiffering_2 (some (pd P 2)) (some (psf P n)) (nI i) σ = some (none, σ1) ∧ RV σ1 P E N (drp (eF E n) i d (ag, gA)).1 (drp (eF E n) i d (ag, gA)).2 gT gR ml pl ∧ gle (drp (eF E n) i d (ag, gA)).2 N ∧ FrR P σ σ1 := by
  intro d
  induction d with
  | zero =>
    intro i σ ag gA hi h hg
    have : i = 9 := by omega
    subst this
    refine ⟨σ, ?_, h, hg, FrR.rf P σ⟩
    rw [eRe_dropDiffering_2, if_pos (show (9 : Int32) ≤ nI 9 by decide)]
  | succ d ih =>
    intro i σ ag gA hi h hg
    have hi9 : i < 9 := by omega
    obtain ⟨b, hb1, hb2⟩ := (h.stf h1 h2).ld
    rw [eRe_dropDiffering_2, if_neg (i9 hi9)]
    simp only [hb1, hb2 i hi9, h.f2, h.g4, h.aA hi9, Option.bind_some, er_inj hS ((hS.2.2.2.1 n h1 h2).2.2.2.1 i hi9) (hg i hi9), eRe_dropDiffering_43, nI1]
    show ∃ σ1, _ ∧ RV σ1 P E N (drp (eF E n) (i + 1) d (if eF E n i = gA i then (ag, gA) else (va_up ag i 0, va_up gA i 0))).1 (drp (eF E n) (i + 1) d (if eF E n i = gA i then (ag, gA) else (va_up ag i 0, va_up gA i 0))).2 gT gR ml pl ∧ gle (drp (eF E n) (i + 1) d (if eF E n i = gA i then (ag, gA) else (va_up ag i 0, va_up gA i 0))).2 N ∧ _
    by_cases e : eF E n i = gA i
    · simp only [if_pos e]
      exact ih (i + 1) σ ag gA (by omega) h hg
    · simp only [if_neg e]
      obtain ⟨σ1, w1, v1, f1⟩ := h.wG hS hi9 (Or.inl rfl : (0 : Int32) = 0 ∨ (0 : Int32) = 1)
      obtain ⟨σ2, w2, v2, f2⟩ := v1.wA hS hi9 (x := none) (n := 0) rfl rfl
      simp only [h.f1, w1, v1.f2, v1.g4, w2, Option.bind_some]
      obtain ⟨σ3, w3, v3, g3, f3⟩ := ih (i + 1) σ2 _ _ (by omega) v2 (gle_up hg (Nat.zero_le _))
      exact ⟨σ3, w3, v3, g3, ((FrR.w (by decide) f1).tr (FrR.w (by decide) f2)).tr f3⟩
theorem Re_dropDiffering (hS : RS P E N) {n : Nat} (h1 : 1 ≤ n) (h2 : n ≤ N) (h : RV σ P E N ag gA gT gR ml pl) (hg : gle gA N) : ∃ σ1, cV rF nRe_dropDiffering [sA (some (pd P 2)), sA (some (psf P n))] σ = some σ1 ∧ RV σ1 P E N (drp (eF E n) 0 9 (ag, gA)).1 (drp (eF E n) 0 9 (ag, gA)).2 gT gR ml pl ∧ gle (drp (eF E n) 0 9 (ag, gA)).2 N ∧ FrR P σ σ1 := by
  obtain ⟨σ1, w1, r⟩ := Re_drop_2 hS h1 h2 9 0 σ ag gA rfl h hg
  exact ⟨σ1, cV_of ((eRe_dropDiffering _ _ σ).trans w1), r⟩
/-- the agreed state takes an event's state over -/
theorem Re_copyA (hS : RS P E N) {n : Nat} (h1 : 1 ≤ n) (h2 : n ≤ N) (h : RV σ P E N ag gA gT gR ml pl) : ∃ σ1, cV rF nSt_copyFrom [sA (some (pd P 4)), sA (some (psf P n))] σ = some σ1 ∧ RV σ1 P E N ag (eF E n) gT gR ml pl ∧ FrR P σ σ1 := by
  obtain ⟨f, hf, hf2⟩ := h.2.2.2.2.1
  obtain ⟨-, -, hs, f2, hg, hg2⟩ := h.2.2.2.2.2.2.2.2.2.2.2 n h1 h2
  have hne := (hS.2.2.2.1 n h1 h2).2.1.1
  refine ⟨_, St_copyFrom h.2.2.2.1 hf hs hg (Ne.symm hne) (fun j hj => ?_), h.pA hS (fun j hj => ?_), FrR.w (i := 5) (by decide) ⟨_, rfl⟩⟩
  · rw [hg2 j hj]
    exact h.ok ((hS.2.2.2.1 n h1 h2).2.2.2.1 j hj)
  · rw [if_pos hj]
    exact hg2 j hj
theorem Re_copyR (hS : RS P E N) (h : RV σ P E N ag gA gT gR ml pl) (hg : gle gA N) : ∃ σ1, cV rF nSt_copyFrom [sA (some (pd P 10)), sA (some (pd P 4))] σ = some σ1 ∧ RV σ1 P E N ag gA gT gA ml pl ∧ FrR P σ σ1 := by
  obtain ⟨f, hf, hf2⟩ := h.2.2.2.2.2.2.2.2.2.2.1
  obtain ⟨f2, hg1, hg2⟩ := h.2.2.2.2.1
  refine ⟨_, St_copyFrom h.2.2.2.2.2.2.2.2.2.1 hf h.2.2.2.1 hg1 (Ne.symm hS.2.1.2.1) (fun j hj => ?_), h.pR hS (fun j hj => ?_), FrR.w (i := 11) (by decide) ⟨_, rfl⟩⟩
  · rw [hg2 j hj]
    exact h.ok (hg j hj)
  · rw [if_pos hj]
    exact hg2 j hj
def ini : Nat → Nat → (Nat → Int32) × (Nat → Nat) → (Nat → Int32) × (Nat → Nat)
  | _, 0, q => q
  | i, d + 1, q => ini (i + 1) d (va_up q.1 i 1, va_up q.2 i 0)
/-- findAgreed's walk over the sources: first?, agreed, agreed state -/
def fag (E : Ed) (S : Int64) : Nat → Nat → Int32 × (Nat → Int32) × (Nat → Nat) → (Nat → Int32) × (Nat → Nat)
  | _, 0, q => q.2
  | n, d + 1, q => fag E S (n + 1) d (if hb S n = true then (0, drp (eF E n) 0 9 (q.2.1, if q.1 = 0 then q.2.2 else eF E n)) else q)
theorem Re_findAgreed_36 (hS : RS P E N) (S : Int64) : ∀ (d n : Nat) (σ : Hp) (b : Int32) (ag : Nat → Int32) (gA : Nat → Nat), 1 ≤ n → n + d = N + 1 → RV σ P E N ag gA gT gR ml pl → gle gA N → ∃ σ1, fRe_findAgreed_36 (some (pd P 2)) S b (nI n) σ = some (none, σ1) ∧ RV σ1 P E N (fag E S n d (b, ag, gA)).1 (fag E S n d (b, ag, gA)).2 gT gR ml pl ∧ gle (fag E S n d (b, ag, gA)).2 N ∧ FrR P σ σ1 := by
  intro d
  induction d with
  | zero =>
    intro n σ b ag gA hn1 hn h hg
    have : n = N + 1 := by omega
    subst this
    refine ⟨σ, ?_, h, hg, FrR.rf P σ⟩
    rw [eRe_findAgreed_36]
    simp only [h.f0, h.hi.made, Option.bind_some, if_pos (nN1 hS.1)]
  | succ d ih =>
    intro n σ b ag gA hn1 hn h hg
    have hnN : n ≤ N := by omega
    rw [eRe_findAgreed_36]
    simp only [h.f0, h.hi.made, h.hi.rc, Hi_pick h.hi hS.1 hn1 hnN, Option.bind_some, if_neg (nN hS.1 hnN), eRe_findAgreed_92, eRe_findAgreed_81, nI1]
    show ∃ σ1, _ ∧ RV σ1 P E N (fag E S (n + 1) d (if hb S n = true then (0, drp (eF E n) 0 9 (ag, if b = 0 then gA else eF E n)) else (b, ag, gA))).1 (fag E S (n + 1) d (if hb S n = true then (0, drp (eF E n) 0 9 (ag, if b = 0 then gA else eF E n)) else (b, ag, gA))).2 gT gR ml pl ∧ gle (fag E S (n + 1) d (if hb S n = true then (0, drp (eF E n) 0 9 (ag, if b = 0 then gA else eF E n)) else (b, ag, gA))).2 N ∧ _
    cases hbn : hb S n
    · simp only [Bool.false_eq_true, if_false, if_true]
      exact ih (n + 1) σ b ag gA (by omega) (by omega) h hg
    · simp only [if_true, reduceCtorEq, if_false]
      by_cases hb0 : b = 0
      · simp only [if_pos hb0, h.s7 hn1 hnN, h.rc, Option.bind_some]
        obtain ⟨σ1, w1, v1, g1, f1⟩ := Re_dropDiffering hS hn1 hnN h hg
        simp only [w1, Option.bind_some]
        obtain ⟨σ2, w2, v2, g2, f2⟩ := ih (n + 1) σ1 0 _ _ (by omega) (by omega) v1 g1
        exact ⟨σ2, w2, v2, g2, f1.tr f2⟩
      · obtain ⟨σ0, w0, v0, f0⟩ := Re_copyA hS hn1 hnN h
        simp only [if_neg hb0, h.f2, h.s7 hn1 hnN, h.stA.rc, w0, v0.s7 hn1 hnN, v0.rc, Option.bind_some]
        obtain ⟨σ1, w1, v1, g1, f1⟩ := Re_dropDiffering hS hn1 hnN v0 (hS.2.2.2.1 n hn1 hnN).2.2.2.1
        simp only [w1, Option.bind_some]
        obtain ⟨σ2, w2, v2, g2, f2⟩ := ih (n + 1) σ1 0 _ _ (by omega) (by omega) v1 g1
        exact ⟨σ2, w2, v2, g2, (f0.tr f1).tr f2⟩
theorem Re_findAgreed_2 (hS : RS P E N) (S : Int64) : ∀ (d i : Nat) (σ : Hp) (ag : Nat → Int32) (gA : Nat → Nat), i + d = 9 → RV σ P E N ag gA gT gR ml pl → gle gA N → ∃ σ1, fRe_findAgreed_2 (some (pd P 2)) S (nI i) σ = fRe_findAgreed_36 (some (pd P 2)) S 1 1 σ1 ∧ RV σ1 P E N (ini i d (ag, gA)).1 (ini i d (ag, gA)).2 gT gR ml pl ∧ gle (ini i d (ag, gA)).2 N ∧ FrR P σ σ1 := by
  intro d
  induction d with
  | zero =>
    intro i σ ag gA hi h hg
    have : i = 9 := by omega
    subst this
    refine ⟨σ, ?_, h, hg, FrR.rf P σ⟩
    rw [eRe_findAgreed_2, if_pos (show (9 : Int32) ≤ nI 9 by decide)]
  | succ d ih =>
    intro i σ ag gA hi h hg
    have hi9 : i < 9 := by omega
    obtain ⟨σ1, w1, v1, f1⟩ := h.wG hS hi9 (Or.inr rfl : (1 : Int32) = 0 ∨ (1 : Int32) = 1)
    obtain ⟨σ2, w2, v2, f2⟩ := v1.wA hS hi9 (x := none) (n := 0) rfl rfl
    rw [eRe_findAgreed_2, if_neg (i9 hi9)]
    simp only [h.f1, w1, v1.f2, v1.g4, w2, Option.bind_some, nI1]
    obtain ⟨σ3, w3, v3, g3, f3⟩ := ih (i + 1) σ2 _ _ (by omega) v2 (gle_up hg (Nat.zero_le _))
    exact ⟨σ3, w3, v3, g3, ((FrR.w (by decide) f1).tr (FrR.w (by decide) f2)).tr f3⟩
def agq (E : Ed) (S : Int64) (N : Nat) (q : (Nat → Int32) × (Nat → Nat)) : (Nat → Int32) × (Nat → Nat) := fag E S 1 N (1, ini 0 9 q)
theorem Re_findAgreed (hS : RS P E N) (S : Int64) (h : RV σ P E N ag gA gT gR ml pl) (hg : gle gA N) : ∃ σ1, cV rF nRe_findAgreed [sA (some (pd P 2)), sJ S] σ = some σ1 ∧ RV σ1 P E N (agq E S N (ag, gA)).1 (agq E S N (ag, gA)).2 gT gR ml pl ∧ gle (agq E S N (ag, gA)).2 N ∧ FrR P σ σ1 := by
  obtain ⟨σ1, w1, v1, g1, f1⟩ := Re_findAgreed_2 hS S 9 0 σ ag gA rfl h hg
  obtain ⟨σ2, w2, v2, g2, f2⟩ := Re_findAgreed_36 hS S N 1 σ1 1 _ _ (Nat.le_refl _) (by omega) v1 g1
  exact ⟨σ2, cV_of (((eRe_findAgreed _ _ σ).trans w1).trans w2), v2, g2, f1.tr f2⟩
end RE
