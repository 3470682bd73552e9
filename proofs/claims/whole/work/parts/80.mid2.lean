/-! The steps between; the end: refused, or kept. -/
section MD2
variable {o b sL rm sr wi wa c N : Nat} {xs : Nat → Int32} {se ma : Nat → Nat} {P : Pa} {E : Ed} {Q : Nat → Sv} {M : Nat → Ms} {nw : Int32}
variable {σ0 σ σ1 : Hp} {ea : Nat → Nat} {k u t : Nat} {pv : Int64} {v tm v' tm' : Int32} {q q' : Int64 × Int64 × (Nat → Nat)} {gd gd' : Int32} {g fF fF' : Nat → Nat}
/-- only the new event's object, its auths' array and the array behind it have changed -/
theorem Mid.step (h : Mid σ0 σ o P E N ea k u t pv v tm q gd g fF) (hs : Mst σ0 P E N ea) (h8 : o + 22 < σ0.1) (h6 : Hfr σ0) (w : EvW σ1 ea σ0.1 (σ0.1 + 1) (σ0.1 + 2) (σ0.1 + 3) (σ0.1 + 4) (σ0.1 + 5) (σ0.1 + 6) (N + 1) k u t pv v' tm' q' gd' g fF') (f : FrX (fun a => a = σ0.1 ∨ a = σ0.1 + 4 ∨ a = σ0.1 + 6) σ σ1) : Mid σ0 σ1 o P E N ea k u t pv v' tm' q' gd' g fF' := by
  obtain ⟨-, ⟨ag, gA, gT, gV, ml, pl, m2, m2', m2''⟩, m3, m4, m5, m6, m7, m8⟩ := h
  obtain ⟨hN, ex, en, -, -, hlt⟩ := hs
  have lo : ∀ a, a < σ0.1 → σ1.2.2 a = σ.2.2 a := fun a ha => f.2.2 a (fun z => by rcases z with z | z | z <;> omega)
  have n12 : ∀ a, a = σ0.1 + 1 ∨ a = σ0.1 + 2 → σ1.2.2 a = σ.2.2 a := fun a ha => f.2.2 a (fun z => by rcases z with z | z | z <;> omega)
  refine ⟨w, ⟨ag, gA, gT, gV, ml, pl, m2.mono (fun a d ha _ hd => ?_), m2', m2''.mono (fun d _ hd => (lo _ (hlt _ (Or.inl ⟨11, by decide, rfl⟩))).trans hd)⟩, (lo _ (hlt _ (Or.inl ⟨10, by decide, rfl⟩))).trans m3, fun i hi a d hd ha => ?_, fun i hi => (lo _ (by omega)).trans (m5 i hi), ?_, ?_, ?_⟩
  · rcases Ft_n en ha with z | z
    · exact (lo a (hlt a z)).trans hd
    · exact (n12 a z).trans hd
  · exact (lo a (h6.lt ha)).trans (m4 i hi a d hd ha)
  · refine f.hfr m6 (fun y hy => ?_)
    rcases hy with z | z | z <;> omega
  · rw [f.1]
    exact m7
  · rw [f.2.1]
    exact m8
theorem Mid.ev (h : Mid σ0 σ o P E N ea k u t pv v tm q gd g fF) : EvA σ ea E N := by
  obtain ⟨-, ⟨ag, gA, gT, gV, ml, pl, m2, -⟩, -⟩ := h
  exact m2.ev
theorem Mst.ne (hs : Mst σ0 P E N ea) : ∀ n, 1 ≤ n → n ≤ N → ea n ≠ σ0.1 := by
  obtain ⟨hN, ex, en, -, -, hlt⟩ := hs
  intro n n1 n2 z
  have := hlt (pe P n) (Or.inr ⟨n, n1, n2, Or.inl rfl⟩)
  rw [← en n n2] at this
  omega
/-- the resolution into the state before the new event -/
theorem Mid.res {S : Int64} (h : Mid σ0 σ o P E N ea k u t pv v tm q gd g fF) (hs : Mst σ0 P E N ea) (h8 : o + 22 < σ0.1) (h6 : Hfr σ0) (hO : ∀ a, Ft P N a → Ou o a) (hI : InV E N) (hS : SrcOk E N S) : ∃ σ1 g1, cV rF nRe_resolve [sA (some (pd P 2)), sJ S, sA (some (σ0.1 + 1))] σ = some σ1 ∧ Mid σ0 σ1 o P E N ea k u t pv v tm q gd g1 fF ∧ gle g1 N ∧ Res E N S g1 := by
  obtain ⟨⟨w0, ⟨w1, A1⟩, ⟨w2, A2⟩, ⟨w3, A3⟩, d12, d13, d23⟩, ⟨ag, gA, gT, gV, ml, pl, m2, m2', m2''⟩, m3, m4, m5, m6, m7, m8⟩ := h
  obtain ⟨hN, ex, en, rs0, rs, hlt⟩ := hs
  obtain ⟨σ1, ag1, gA1, gT1, g1, ml1, pl1, e1, v1, b1, b2, r1, f1⟩ := Re_res hI hS rs m2 m2'
  have p2 : pd (Pn P N σ0.1 ea (dN P σ0.1)) 2 = pd P 2 := dN_n (P := P) (x := σ0.1) (i := 2) (by decide) (by decide)
  have p10 : pd (Pn P N σ0.1 ea (dN P σ0.1)) 10 = σ0.1 + 1 := dN_10 (P := P) (x := σ0.1)
  have pw : ∀ i, i ≤ 9 → pd (Pn P N σ0.1 ea (dN P σ0.1)) i = pd P i := fun i hi => dN_n (P := P) (x := σ0.1) (i := i) (by omega) (by omega)
  have p11 : pd (Pn P N σ0.1 ea (dN P σ0.1)) 11 = σ0.1 + 2 := dN_11 (P := P) (x := σ0.1)
  have l : ∀ i, i ≤ 9 → pd P i < σ0.1 := fun i hi => hlt _ (Or.inl ⟨i, by omega, rfl⟩)
  rw [p2, p10] at e1
  have fr : ∀ a, (a ≠ pd P 3 ∧ a ≠ pd P 5 ∧ a ≠ pd P 7 ∧ a ≠ pd P 8 ∧ a ≠ pd P 9 ∧ a ≠ σ0.1 + 2) → σ1.2.2 a = σ.2.2 a := fun a ha => f1.2.2 a (by rw [pw 3 (by decide), pw 5 (by decide), pw 7 (by decide), pw 8 (by decide), pw 9 (by decide), p11]; exact ha)
  have l3 := l 3 (by decide)
  have l5 := l 5 (by decide)
  have l7 := l 7 (by decide)
  have l8 := l 8 (by decide)
  have l9 := l 9 (by decide)
  have hi : ∀ a, σ0.1 ≤ a → a ≠ σ0.1 + 2 → σ1.2.2 a = σ.2.2 a := fun a h1 h2 => fr a ⟨by omega, by omega, by omega, by omega, by omega, h2⟩
  have v1' := v1
  obtain ⟨-, -, -, -, -, -, -, -, -, z10, z11, -⟩ := v1'
  rw [p10, p11] at z10
  rw [p11] at z11
  refine ⟨σ1, g1, e1, ⟨⟨(hi _ (Nat.le_refl _) (by omega)).trans w0, ⟨z10, z11⟩, ⟨(hi _ (by omega) (by omega)).trans w2, A2.mono (fun d _ hd => (hi _ (by omega) (by omega)).trans hd)⟩, ⟨(hi _ (by omega) (by omega)).trans w3, A3.mono (fun d _ hd => (hi _ (by omega) (by omega)).trans hd)⟩, d12, d13, d23⟩, ⟨ag1, gA1, gT1, gV, ml1, pl1, v1, b1, ?_⟩, ?_, fun i hi' => (m4 i hi').tr (f1.kg m2 hi'), m5.tr (f1.kp22 (fun i hi => ?_)), m6.frr f1 m2, ?_, ?_⟩, b2, r1⟩
  · obtain ⟨-, ⟨d57, d511, d711⟩, -⟩ := rs0
    refine m2''.mono (fun d hd hx => ?_)
    have l11 := hlt (pd P 11) (Or.inl ⟨11, by decide, rfl⟩)
    refine (fr _ ⟨?_, fun z => d511 z.symm, fun z => d711 z.symm, ?_, ?_, by omega⟩).trans hx
    · obtain ⟨fv, hv, -⟩ := m2''
      have := m2.2.2.1
      rw [pw 3 (by decide)] at this
      intro z
      rw [z, this] at hv
      cases hv
    · obtain ⟨fv, hv, -⟩ := m2''
      have := m2.2.2.2.2.2.2.2.1
      rw [pw 8 (by decide)] at this
      intro z
      rw [z, this] at hv
      cases hv
    · obtain ⟨fv, hv, -⟩ := m2''
      have := m2.2.2.2.2.2.2.2.2.1
      rw [pw 9 (by decide)] at this
      intro z
      rw [z, this] at hv
      cases hv
  · have l10 := hlt (pd P 10) (Or.inl ⟨10, by decide, rfl⟩)
    obtain ⟨-, -, c3, -, ⟨f5, c5, -⟩, -, ⟨f7, c7, -⟩, c8, c9, -⟩ := m2
    rw [pw 3 (by decide)] at c3
    rw [pw 5 (by decide)] at c5
    rw [pw 7 (by decide)] at c7
    rw [pw 8 (by decide)] at c8
    rw [pw 9 (by decide)] at c9
    have ne : ∀ {y : Nat} {z : Nat × Nat × Ac}, σ.2.2 y = some (.inl z) → pd P 10 ≠ y := fun hy e => by
      rw [← e, m3] at hy
      cases hy
    exact (fr _ ⟨ne c3, ne c5, ne c7, ne c8, ne c9, by omega⟩).trans m3
  · by_cases c10 : i ≤ 9
    · rw [pw i c10]
      exact hO _ (Or.inl ⟨i, hi, rfl⟩)
    · rcases (show i = 10 ∨ i = 11 by omega) with z | z
      · rw [z, p10]
        exact Or.inr (by omega)
      · rw [z, p11]
        exact Or.inr (by omega)
  · rw [f1.1]
    exact m7
  · rw [f1.2.1]
    exact m8
/-- the new event is refused: it is left lying -/
theorem Mid.no (hC : ClR σ0 o b sL xs rm sr wi wa se ma P E N Q M c nw) (h : Mid σ0 σ o P E N ea k u t pv v tm q gd g fF) (hs : Mst σ0 P E N ea) : ClR σ o b sL xs rm sr wi wa se ma (Pn P N σ0.1 ea (pd P)) E N Q M c nw := by
  obtain ⟨h1, -, h3, h4, h5, h6, h7, h8, o1, o6, o7, o8⟩ := hC
  obtain ⟨-, ⟨ag, gA, gT, gV, ml, pl, m2, m2', m2''⟩, m3, m4, m5, m6, m7, m8⟩ := h
  obtain ⟨hN, ex, en, ⟨hN40, dd, d89, hS, hinj⟩, rs, hlt⟩ := hs
  have pw : ∀ i, i ≤ 9 → pd (Pn P N σ0.1 ea (dN P σ0.1)) i = pd P i := fun i hi => dN_n (P := P) (x := σ0.1) (i := i) (by omega) (by omega)
  obtain ⟨z0, z2, z3, z4, z5, z6, z7, z8, z9, -, -, zn⟩ := m2
  rw [pw 0 (by decide), pw 1 (by decide)] at z0
  rw [pw 0 (by decide), pw 2 (by decide), pw 3 (by decide), pw 4 (by decide), pw 6 (by decide), pw 8 (by decide), pw 9 (by decide)] at z2
  rw [pw 3 (by decide)] at z3
  rw [pw 4 (by decide), pw 5 (by decide)] at z4
  rw [pw 5 (by decide)] at z5
  rw [pw 6 (by decide), pw 7 (by decide)] at z6
  rw [pw 7 (by decide)] at z7
  rw [pw 8 (by decide)] at z8
  rw [pw 9 (by decide)] at z9
  refine ⟨m4 2 (by decide) _ _ rfl h1, ⟨ag, gA, gT, gV, ml, pl, ⟨z0, z2, z3, z4, z5, z6, z7, z8, z9, m3, m2'', zn⟩, m2'⟩, ⟨hN40, dd, d89, fun n n1 n2 => ?_, fun a b a1 a2 b1 b2 hab => ?_⟩, h4.kg (m4 3 (by decide)), h5.kg (m4 4 (by decide)), m6, m4 5 (by decide) _ _ rfl h7, by omega, o1, o6, o7, fun a ha => ?_⟩
  · have ne : n ≠ N + 1 := by omega
    have t3 : psA (Pn P N σ0.1 ea (pd P)) n = psA P n := va_up_ne _ _ ne
    have t5 : psF (Pn P N σ0.1 ea (pd P)) n = psF P n := va_up_ne _ _ ne
    rw [t3, t5]
    exact hS n n1 n2
  · have ha : pe (Pn P N σ0.1 ea (pd P)) a = pe P a := en a a2
    have hb : pe (Pn P N σ0.1 ea (pd P)) b = pe P b := en b b2
    rw [ha, hb] at hab
    exact hinj a b a1 a2 b1 b2 hab
  · rcases ha with ⟨i, hi, rfl⟩ | ⟨n, n1, n2, hx⟩
    · exact o8 _ (Or.inl ⟨i, hi, rfl⟩)
    · have ne : n ≠ N + 1 := by omega
      have t1 : pe (Pn P N σ0.1 ea (pd P)) n = pe P n := en n n2
      have t2 : psa (Pn P N σ0.1 ea (pd P)) n = psa P n := va_up_ne _ _ ne
      have t3 : psA (Pn P N σ0.1 ea (pd P)) n = psA P n := va_up_ne _ _ ne
      have t4 : psf (Pn P N σ0.1 ea (pd P)) n = psf P n := va_up_ne _ _ ne
      have t5 : psF (Pn P N σ0.1 ea (pd P)) n = psF P n := va_up_ne _ _ ne
      rw [t1, t2, t3, t4, t5] at hx
      exact o8 a (Or.inr ⟨n, n1, n2, hx⟩)
/-- the new event is kept: the history holds it -/
theorem Mid.keep (hC : ClR σ0 o b sL xs rm sr wi wa se ma P E N Q M c nw) (h : Mid σ0 σ o P E N ea k u t pv v tm q gd g fF) (hs : Mst σ0 P E N ea) (hI : InV (Ex E (N + 1) k u t v tm gd pv q.1 q.2.1 fF q.2.2) (N + 1)) : ∃ σ1, cV rF nHi_keep [sA (some (pd P 0)), sA (some σ0.1)] σ = some σ1 ∧ ClR σ1 o b sL xs rm sr wi wa se ma (Pn P N σ0.1 ea (pd P)) (Ex E (N + 1) k u t v tm gd pv q.1 q.2.1 fF q.2.2) (N + 1) Q M c nw ∧ Kp22 o σ0 σ1 ∧ σ1.1 = σ0.1 + 7 ∧ σ1.2.1 = σ0.2.1 + 43 := by
  obtain ⟨h1, -, h3, h4, h5, h6, h7, h8, o1, o6, o7, o8⟩ := hC
  obtain ⟨⟨w0, ⟨w1, A1⟩, ⟨w2, A2⟩, ⟨w3, A3⟩, d12, d13, d23⟩, ⟨ag, gA, gT, gV, ml, pl, m2, m2', m2''⟩, m3, m4, m5, m6, m7, m8⟩ := h
  obtain ⟨hN, ex, en, ⟨hN40, dd, d89, hS, hinj⟩, rs, hlt⟩ := hs
  have pw : ∀ i, i ≤ 9 → pd (Pn P N σ0.1 ea (dN P σ0.1)) i = pd P i := fun i hi => dN_n (P := P) (x := σ0.1) (i := i) (by omega) (by omega)
  obtain ⟨z0, z2, z3, z4, z5, z6, z7, z8, z9, -, -, zn⟩ := m2
  rw [pw 0 (by decide), pw 1 (by decide)] at z0
  rw [pw 0 (by decide), pw 2 (by decide), pw 3 (by decide), pw 4 (by decide), pw 6 (by decide), pw 8 (by decide), pw 9 (by decide)] at z2
  rw [pw 3 (by decide)] at z3
  rw [pw 4 (by decide), pw 5 (by decide)] at z4
  rw [pw 5 (by decide)] at z5
  rw [pw 6 (by decide), pw 7 (by decide)] at z6
  rw [pw 7 (by decide)] at z7
  rw [pw 8 (by decide)] at z8
  rw [pw 9 (by decide)] at z9
  have z0' := z0
  obtain ⟨c0, fe, c1, -⟩ := z0'
  obtain ⟨σ1, e1, v1, f1⟩ := Hi_keep (x := σ0.1) z0 hN ex ⟨_, w0⟩
  have hsam : Sam E (Ex E (N + 1) k u t v tm gd pv q.1 q.2.1 fF q.2.2) N := Ex_sam
  have eq1 : ∀ y1 y2 y3, evc (Ex E (N + 1) k u t v tm gd pv q.1 q.2.1 fF q.2.2) (N + 1) y1 y2 y3 = evx (nI (N + 1)) (nI k) (nI u) (nI t) pv (some y1) (some y2) (some y3) v tm q.1 q.2.1 gd := fun y1 y2 y3 => evc_Ex _ _ _ _ _ _ _ _ _ _ _ _ _ _ _ _
  have eF1 : eF (Ex E (N + 1) k u t v tm gd pv q.1 q.2.1 fF q.2.2) (N + 1) = fF := va_up_self _ _ _
  have eA1 : eA (Ex E (N + 1) k u t v tm gd pv q.1 q.2.1 fF q.2.2) (N + 1) = q.2.2 := va_up_self _ _ _
  generalize Ex E (N + 1) k u t v tm gd pv q.1 q.2.1 fF q.2.2 = X at *
  have kf : ∀ a d, σ.2.2 a = some d → (∀ fs, d ≠ .inr (2, fs)) → (∀ z, d ≠ .inl (3, 41, z)) → σ1.2.2 a = some d := fun a d ha hd1 hd2 => by
    refine (f1.2.2 a (fun z => ?_)).trans ha
    rcases z with z | z
    · rw [z, c0] at ha
      cases ha
      exact hd1 _ rfl
    · rw [z, c1] at ha
      cases ha
      exact hd2 _ rfl
  have i2 : ∀ {ci : Nat} {fs : List sv}, ci ≠ 2 → ∀ gs, (.inr (ci, fs) : Cl) ≠ .inr (2, gs) := fun hc gs e => by
    injection e with e
    injection e with e1 e2
    exact hc e1
  have ia : ∀ {z : Nat × Nat × Ac}, ∀ gs, (.inl z : Cl) ≠ .inr (2, gs) := fun gs e => by cases e
  have oa : ∀ {fs : Nat × List sv}, ∀ z, (.inr fs : Cl) ≠ .inl (3, 41, z) := fun z e => by cases e
  have aa : ∀ {k n : Nat} {y : Ac}, ¬ (k = 3 ∧ n = 41) → ∀ z, (.inl (k, n, y) : Cl) ≠ .inl (3, 41, z) := fun hk z e => by
    injection e with e
    injection e with e1 e2
    injection e2 with e2 e3
    exact hk ⟨e1, e2⟩
  have kA : ∀ {ea' : Nat → Nat} {a : Nat} {g' : Nat → Nat}, ArE σ ea' a g' → ArE σ1 ea' a g' := fun hA => by
    obtain ⟨f, y1, y2⟩ := hA
    exact ⟨f, kf _ _ y1 ia (aa (by omega)), y2⟩
  have kO : ∀ {y ci : Nat} {fs : List sv}, ci ≠ 2 → σ.2.2 y = some (.inr (ci, fs)) → σ1.2.2 y = some (.inr (ci, fs)) := fun hc hy => kf _ _ hy (i2 hc) oa
  have kgg : ∀ i, i ≠ 1 → Kg i σ σ1 := fun i hi a d hd ha => kf a d ha (fun fs e => by rw [e] at hd; exact hi hd.symm) (fun z e => by rw [e] at hd; exact hi hd.symm)
  have lhi := m6.lt c0
  have lev := m6.lt c1
  have hF1 : Hfr σ1 := f1.hfr m6 (fun y hy => by rcases hy with z | z <;> omega)
  refine ⟨σ1, e1, ⟨(kgg 2 (by decide)) _ _ rfl (m4 2 (by decide) _ _ rfl h1), ⟨ag, gA, gT, gV, ml, pl, ⟨v1, kO (by decide) z2, kf _ _ z3 ia (aa (by omega)), kO (by decide) z4, kA z5, kO (by decide) z6, kA z7, kf _ _ z8 ia (aa (by omega)), kf _ _ z9 ia (aa (by omega)), kO (by decide) m3, kA m2'', fun n n1 n2 => ?_⟩, fun j hj => by have := m2' j hj; omega⟩, ⟨by omega, dd, d89, fun n n1 n2 => ?_, fun a b a1 a2 b1 b2 hab => ?_⟩, (h4.kg (m4 3 (by decide))).kg (kgg 3 (by decide)), (h5.kg (m4 4 (by decide))).kg (kgg 4 (by decide)), hF1, (kgg 5 (by decide)) _ _ rfl (m4 5 (by decide) _ _ rfl h7), ?_, o1, o6, o7, fun a ha => ?_⟩, ?_, ?_, ?_⟩
  · show (∃ sb, σ1.2.2 (ea n) = some (evc X n sb (va_up (psa P) (N + 1) (σ0.1 + 3) n) (va_up (psf P) (N + 1) (σ0.1 + 5) n))) ∧ (σ1.2.2 (va_up (psa P) (N + 1) (σ0.1 + 3) n) = some (.inr (6, [sA (some (va_up (psA P) (N + 1) (σ0.1 + 4) n))])) ∧ ArE σ1 ea (va_up (psA P) (N + 1) (σ0.1 + 4) n) (eA X n)) ∧ (σ1.2.2 (va_up (psf P) (N + 1) (σ0.1 + 5) n) = some (.inr (6, [sA (some (va_up (psF P) (N + 1) (σ0.1 + 6) n))])) ∧ ArE σ1 ea (va_up (psF P) (N + 1) (σ0.1 + 6) n) (eF X n))
    by_cases cn : n = N + 1
    · subst cn
      rw [va_up_self, va_up_self, va_up_self, va_up_self, ex, eA1, eF1]
      exact ⟨⟨σ0.1 + 1, by rw [eq1]; exact kO (by decide) w0⟩, ⟨kO (by decide) w2, kA A2⟩, kO (by decide) w3, kA A3⟩
    · have hn : n ≤ N := by omega
      obtain ⟨⟨sb, y1⟩, ⟨y2, y3⟩, y4, y5⟩ := zn n n1 hn
      obtain ⟨-, -, s1, s2⟩ := hsam n hn
      rw [s1, s2]
      exact ⟨⟨sb, by rw [evc_sam hsam hn]; exact kO (by decide) y1⟩, ⟨kO (by decide) y2, kA y3⟩, kO (by decide) y4, kA y5⟩
  · have kok := (hI.kok n1 n2).1.gle
    have ka := (hI.agle n1 n2).1
    obtain ⟨-, k7, s6, t6, -⟩ := hI.2.2.2 n n1 n2
    have lp : ∀ i, i ≤ 11 → pd P i < σ0.1 := fun i hi => hlt _ (Or.inl ⟨i, hi, rfl⟩)
    have l5 := lp 5 (by decide)
    have l7 := lp 7 (by decide)
    have l11 := lp 11 (by decide)
    show (va_up (psA P) (N + 1) (σ0.1 + 4) n ≠ pd P 5 ∧ va_up (psA P) (N + 1) (σ0.1 + 4) n ≠ pd P 7 ∧ va_up (psA P) (N + 1) (σ0.1 + 4) n ≠ pd P 11) ∧ (va_up (psF P) (N + 1) (σ0.1 + 6) n ≠ pd P 5 ∧ va_up (psF P) (N + 1) (σ0.1 + 6) n ≠ pd P 7 ∧ va_up (psF P) (N + 1) (σ0.1 + 6) n ≠ pd P 11) ∧ gle (eA X n) (N + 1) ∧ gle (eF X n) (N + 1) ∧ eK X n ≤ 7 ∧ eS X n < 6 ∧ eT X n < 6
    by_cases cn : n = N + 1
    · subst cn
      rw [va_up_self, va_up_self]
      exact ⟨⟨by omega, by omega, by omega⟩, ⟨by omega, by omega, by omega⟩, ka, kok, k7, s6, t6⟩
    · obtain ⟨u1, u2, -⟩ := hS n n1 (by omega)
      rw [va_up_ne _ _ cn, va_up_ne _ _ cn]
      exact ⟨u1, u2, ka, kok, k7, s6, t6⟩
  · replace hab : ea a = ea b := hab
    have le : ∀ n, 1 ≤ n → n ≤ N → ea n < σ0.1 := fun n n1 n2 => by
      rw [en n n2]
      exact hlt _ (Or.inr ⟨n, n1, n2, Or.inl rfl⟩)
    by_cases ca : a = N + 1
    · by_cases cb : b = N + 1
      · omega
      · have := le b b1 (by omega)
        rw [ca, ex] at hab
        omega
    · by_cases cb : b = N + 1
      · have := le a a1 (by omega)
        rw [cb, ex] at hab
        omega
      · rw [en a (by omega), en b (by omega)] at hab
        exact hinj a b a1 (by omega) b1 (by omega) hab
  · rw [f1.1]
    omega
  · rcases ha with ⟨i, hi, rfl⟩ | ⟨n, n1, n2, hx⟩
    · exact o8 _ (Or.inl ⟨i, hi, rfl⟩)
    · by_cases cn : n = N + 1
      · subst cn
        have t1 : pe (Pn P N σ0.1 ea (pd P)) (N + 1) = σ0.1 := ex
        have t2 : psa (Pn P N σ0.1 ea (pd P)) (N + 1) = σ0.1 + 3 := va_up_self _ _ _
        have t3 : psA (Pn P N σ0.1 ea (pd P)) (N + 1) = σ0.1 + 4 := va_up_self _ _ _
        have t4 : psf (Pn P N σ0.1 ea (pd P)) (N + 1) = σ0.1 + 5 := va_up_self _ _ _
        have t5 : psF (Pn P N σ0.1 ea (pd P)) (N + 1) = σ0.1 + 6 := va_up_self _ _ _
        rw [t1, t2, t3, t4, t5] at hx
        refine Or.inr ?_
        rcases hx with z | z | z | z | z <;> omega
      · have t1 : pe (Pn P N σ0.1 ea (pd P)) n = pe P n := en n (by omega)
        have t2 : psa (Pn P N σ0.1 ea (pd P)) n = psa P n := va_up_ne _ _ cn
        have t3 : psA (Pn P N σ0.1 ea (pd P)) n = psA P n := va_up_ne _ _ cn
        have t4 : psf (Pn P N σ0.1 ea (pd P)) n = psf P n := va_up_ne _ _ cn
        have t5 : psF (Pn P N σ0.1 ea (pd P)) n = psF P n := va_up_ne _ _ cn
        rw [t1, t2, t3, t4, t5] at hx
        exact o8 a (Or.inr ⟨n, n1, by omega, hx⟩)
  · refine m5.tr (fun i hi => f1.2.2 _ (fun z => ?_))
    have oh := o8 (pd P 0) (Or.inl ⟨0, by decide, rfl⟩)
    have oe := o8 (pd P 1) (Or.inl ⟨1, by decide, rfl⟩)
    rcases z with z | z
    · rcases oh with y | y <;> omega
    · rcases oe with y | y <;> omega
  · rw [f1.1]
    exact m7
  · rw [f1.2.1]
    exact m8
end MD2
