/-! The relation that the law's loop carries. -/
def grp (c : Cl) : Nat := match c with
  | .inr q => bif Nat.beq q.1 1 || (Nat.beq q.1 2 || (Nat.beq q.1 4 || Nat.beq q.1 6)) then 1 else bif Nat.beq q.1 0 then 2 else bif Nat.beq q.1 5 then 3 else bif Nat.beq q.1 3 || Nat.beq q.1 7 then 4 else 9
  | .inl q => bif (Nat.beq q.1 2 && Nat.beq q.2.1 9) || ((Nat.beq q.1 3 && (Nat.beq q.2.1 9 || Nat.beq q.2.1 41)) || (Nat.beq q.1 0 && Nat.beq q.2.1 41)) then 1 else bif Nat.beq q.1 5 then 3 else bif Nat.beq q.1 4 then 4 else bif Nat.beq q.1 99 then 5 else 9
/-- the cells of a kind stay -/
def Kg (i : Nat) (σ σ1 : Hp) : Prop := ∀ a c, grp c = i → σ.2.2 a = some c → σ1.2.2 a = some c
def Ft (P : Pa) (N : Nat) (a : Nat) : Prop := (∃ i, i ≤ 11 ∧ a = pd P i) ∨ ∃ n, 1 ≤ n ∧ n ≤ N ∧ (a = pe P n ∨ a = psa P n ∨ a = psA P n ∨ a = psf P n ∨ a = psF P n)
def Ou (o a : Nat) : Prop := a < o ∨ o + 22 < a
def SrR (σ : Hp) (sr : Nat) (se : Nat → Nat) (Q : Nat → Sv) : Prop := (∃ f, σ.2.2 sr = some (.inl (5, 3, .inr (.inr f))) ∧ ∀ p, p < 3 → f p = some (se p)) ∧ (∀ p, p < 3 → σ.2.2 (se p) = some (sec (Q p))) ∧ ∀ p q, p < 3 → q < 3 → se p = se q → p = q
section REL
variable {σ σ1 σ2 : Hp} {P : Pa} {E : Ed} {N : Nat} {ag ml pl : Nat → Int32} {gA gT gR : Nat → Nat}
theorem Kg.rf (i : Nat) (σ : Hp) : Kg i σ σ := fun _ _ _ h => h
theorem Kg.tr {i : Nat} (h1 : Kg i σ σ1) (h2 : Kg i σ1 σ2) : Kg i σ σ2 := fun a c hc h => h2 a c hc (h1 a c hc h)
theorem put_kg {x i : Nat} {d d' : Cl} (hx : σ.2.2 x = some d) (h : grp d ≠ i) : Kg i σ (hput σ x d') := by
  intro a c hc ha
  refine kp hx ha (fun e => ?_)
  subst e
  exact h hc
theorem new_kg {n i : Nat} {d : Cl} (hF : Hfr σ) : Kg i σ (hnew σ n d) := by
  intro a c hc ha
  have := hF.lt ha
  exact (hnew_ne (by omega)).trans ha
theorem HiR.mono {hi ev : Nat} {ea : Nat → Nat} (h : HiR σ hi ev ea N) (h1 : ∀ c, grp c = 1 → σ.2.2 hi = some c → σ1.2.2 hi = some c) (h2 : ∀ c, grp c = 1 → σ.2.2 ev = some c → σ1.2.2 ev = some c) : HiR σ1 hi ev ea N := by
  obtain ⟨a, f, b, c⟩ := h
  exact ⟨h1 _ rfl a, f, h2 _ rfl b, c⟩
theorem ArE.mono {ea : Nat → Nat} {a : Nat} {g : Nat → Nat} (h : ArE σ ea a g) (hk : ∀ c, grp c = 1 → σ.2.2 a = some c → σ1.2.2 a = some c) : ArE σ1 ea a g := by
  obtain ⟨f, h1, h2⟩ := h
  exact ⟨f, hk _ rfl h1, h2⟩
theorem RV.mono (h : RV σ P E N ag gA gT gR ml pl) (hk : ∀ a c, Ft P N a → grp c = 1 → σ.2.2 a = some c → σ1.2.2 a = some c) : RV σ1 P E N ag gA gT gR ml pl := by
  obtain ⟨h0, h2, h3, h4, h5, h6, h7, h8, h9, h10, h11, hn⟩ := h
  have pdF : ∀ i, i ≤ 11 → Ft P N (pd P i) := fun i hi => Or.inl ⟨i, hi, rfl⟩
  refine ⟨h0.mono (fun c => hk _ c (pdF 0 (by decide))) (fun c => hk _ c (pdF 1 (by decide))), hk _ _ (pdF 2 (by decide)) rfl h2, hk _ _ (pdF 3 (by decide)) rfl h3, hk _ _ (pdF 4 (by decide)) rfl h4, h5.mono (fun c => hk _ c (pdF 5 (by decide))), hk _ _ (pdF 6 (by decide)) rfl h6, h7.mono (fun c => hk _ c (pdF 7 (by decide))), hk _ _ (pdF 8 (by decide)) rfl h8, hk _ _ (pdF 9 (by decide)) rfl h9, hk _ _ (pdF 10 (by decide)) rfl h10, h11.mono (fun c => hk _ c (pdF 11 (by decide))), fun n n1 n2 => ?_⟩
  obtain ⟨⟨sb, e1⟩, ⟨e2, e3⟩, e4, e5⟩ := hn n n1 n2
  have nF : ∀ a, (a = pe P n ∨ a = psa P n ∨ a = psA P n ∨ a = psf P n ∨ a = psF P n) → Ft P N a := fun a ha => Or.inr ⟨n, n1, n2, ha⟩
  exact ⟨⟨sb, hk _ _ (nF _ (Or.inl rfl)) rfl e1⟩, ⟨hk _ _ (nF _ (Or.inr (Or.inl rfl))) rfl e2, e3.mono (fun c => hk _ c (nF _ (Or.inr (Or.inr (Or.inl rfl)))))⟩, hk _ _ (nF _ (Or.inr (Or.inr (Or.inr (Or.inl rfl))))) rfl e4, e5.mono (fun c => hk _ c (nF _ (Or.inr (Or.inr (Or.inr (Or.inr rfl))))))⟩
theorem RV.kg (h : RV σ P E N ag gA gT gR ml pl) (hk : Kg 1 σ σ1) : RV σ1 P E N ag gA gT gR ml pl := h.mono (fun a c _ hc ha => hk a c hc ha)
theorem FrR.kg {i : Nat} (h : FrR P σ σ1) (hv : RV σ P E N ag gA gT gR ml pl) (hi : i ≠ 1) : Kg i σ σ1 := by
  intro a c hc ha
  obtain ⟨-, -, h3, -, ⟨f5, h5, -⟩, -, ⟨f7, h7, -⟩, h8, h9, -, ⟨f11, h11, -⟩, -⟩ := hv
  have ne : ∀ {x : Nat} {d : Cl}, σ.2.2 x = some d → grp d = 1 → a ≠ x := fun hx hd e => by
    subst e
    rw [ha] at hx
    cases hx
    exact hi (hc.symm.trans hd)
  exact (h.2.2 a ⟨ne h3 rfl, ne h5 rfl, ne h7 rfl, ne h8 rfl, ne h9 rfl, ne h11 rfl⟩).trans ha
section SRV
variable {sr : Nat} {se : Nat → Nat} {Q : Nat → Sv}
theorem SrR.mono (h : SrR σ sr se Q) (hk : ∀ a c, (a = sr ∨ ∃ p, p < 3 ∧ a = se p) → grp c = 3 → σ.2.2 a = some c → σ1.2.2 a = some c) : SrR σ1 sr se Q := by
  obtain ⟨⟨f, a, b⟩, c, d⟩ := h
  exact ⟨⟨f, hk _ _ (Or.inl rfl) rfl a, b⟩, fun p hp => hk _ _ (Or.inr ⟨p, hp, rfl⟩) rfl (c p hp), d⟩
theorem SrR.kg (h : SrR σ sr se Q) (hk : Kg 3 σ σ1) : SrR σ1 sr se Q := h.mono (fun a c _ hc ha => hk a c hc ha)
theorem SrR.at (h : SrR σ sr se Q) {p : Nat} (hp : p < 3) : alA σ (some sr) (nI p) = some (some (se p)) := by
  obtain ⟨⟨f, a, b⟩, -, -⟩ := h
  exact (alA_o a rfl hp (by decide)).trans (by rw [b p hp])
theorem SrR.put (h : SrR σ sr se Q) {p : Nat} (hp : p < 3) (q : Sv) : SrR (hput σ (se p) (sec q)) sr se (va_up Q p q) := by
  obtain ⟨⟨f, a, b⟩, c, d⟩ := h
  refine ⟨⟨f, kp (c p hp) a (fun e => by cases e), b⟩, fun r hr => ?_, d⟩
  by_cases e : r = p
  · subst e
    rw [va_up_self]
    exact hput_same _ _ _
  · rw [va_up_ne _ _ e]
    exact (hput_ne (fun z => e (d r p hr hp z))).trans (c r hr)
end SRV
section WIM
variable {wi wa c : Nat} {ma : Nat → Nat} {M : Nat → Ms}
theorem WiR.mono (h : WiR σ wi wa ma M c) (hk : ∀ a d, (a = wi ∨ a = wa ∨ ∃ j, j < c ∧ a = ma j) → grp d = 4 → σ.2.2 a = some d → σ1.2.2 a = some d) : WiR σ1 wi wa ma M c := by
  obtain ⟨h1, ⟨f, h2, h3⟩, h4, h5, h6⟩ := h
  exact ⟨hk _ _ (Or.inl rfl) rfl h1, ⟨f, hk _ _ (Or.inr (Or.inl rfl)) rfl h2, h3⟩, fun j hj => hk _ _ (Or.inr (Or.inr ⟨j, hj, rfl⟩)) rfl (h4 j hj), h5, h6⟩
theorem WiR.kg (h : WiR σ wi wa ma M c) (hk : Kg 4 σ σ1) : WiR σ1 wi wa ma M c := h.mono (fun a d _ hc ha => hk a d hc ha)
theorem FrW.kg {i : Nat} (h : FrW wi wa σ σ1) (hF : Hfr σ) (hw : WiR σ wi wa ma M c) (hi : i ≠ 4) : Kg i σ σ1 := by
  intro a d hd ha
  obtain ⟨h1, ⟨f, h2, -⟩, -⟩ := hw
  have ne : ∀ {x : Nat} {d' : Cl}, σ.2.2 x = some d' → grp d' = 4 → a ≠ x := fun hx hd' e => by
    subst e
    rw [ha] at hx
    cases hx
    exact hi (hd.symm.trans hd')
  exact (h a (hF.lt ha) (ne h1 rfl) (ne h2 rfl)).trans ha
end WIM
/-- the class's side -/
def ClR (σ : Hp) (o b sL : Nat) (xs : Nat → Int32) (rm sr wi wa : Nat) (se ma : Nat → Nat) (P : Pa) (E : Ed) (N : Nat) (Q : Nat → Sv) (M : Nat → Ms) (c : Nat) (nw : Int32) : Prop :=
  RmC σ rm (pd P 0) (pd P 2) sr wi (pd P 10) nw ∧ (∃ ag gA gT gR ml pl, RV σ P E N ag gA gT gR ml pl ∧ gle gA N) ∧ RS P E N ∧ SrR σ sr se Q ∧ WiR σ wi wa ma M c ∧ Hfr σ ∧ σ.2.2 b = some (.inl (99, sL, .inl xs)) ∧ o + 22 < σ.1 ∧
  (Ou o rm ∧ Ou o sr ∧ Ou o wi ∧ Ou o wa ∧ Ou o b) ∧ (∀ p, p < 3 → Ou o (se p)) ∧ (∀ j, j < c → Ou o (ma j)) ∧ ∀ a, Ft P N a → Ou o a
/-- the reference's side -/
def MoA (σ : Hp) (o : Nat) (E : Ed) (N : Nat) (Q : Nat → Sv) (M : Nat → Ms) (c : Nat) (nw : Int32) (I : Nat → Nat → Int32) (L : Nat → Nat → Int64) : Prop := MoR σ o (nw, nI N, nI c) I L ∧ MoE I L E N ∧ Mo11 I L E N ∧ (∀ n, 1 ≤ n → n ≤ N → I 10 n = eG E n) ∧ MoS I Q ∧ MoM I M c
def MsI (N : Nat) (M : Nat → Ms) (c : Nat) : Prop := ∀ j, j < c → ((M j).1 = 1 ∨ (M j).1 = 2) ∧ (∃ e, 1 ≤ e ∧ e ≤ N ∧ (M j).2.1 = nI e) ∧ (∃ p, p < 3 ∧ (M j).2.2.1 = nI p) ∧ (∃ q, q < 3 ∧ (M j).2.2.2.1 = nI q) ∧ ((M j).2.2.2.2 = 0 ∨ (M j).2.2.2.2 = 1)
def Rl (σ : Hp) (o b sL : Nat) (xs : Nat → Int32) (rm sr wi wa : Nat) (se : Nat → Nat) : Prop := ∃ ma P E N Q M c nw I L, ClR σ o b sL xs rm sr wi wa se ma P E N Q M c nw ∧ MoA σ o E N Q M c nw I L ∧ InV E N ∧ (∀ p, p < 3 → SvI E N (Q p)) ∧ MsI N M c
def Kp22 (o : Nat) (σ σ1 : Hp) : Prop := ∀ k, k ≤ 22 → σ1.2.2 (o + k) = σ.2.2 (o + k)
theorem Kp22.rf (o : Nat) (σ : Hp) : Kp22 o σ σ := fun _ _ => rfl
theorem Kp22.tr {o : Nat} (h1 : Kp22 o σ σ1) (h2 : Kp22 o σ1 σ2) : Kp22 o σ σ2 := fun k hk => (h2 k hk).trans (h1 k hk)
theorem Ou.put {o x : Nat} {d : Cl} (h : Ou o x) : Kp22 o σ (hput σ x d) := by
  intro k hk
  refine hput_ne (fun e => ?_)
  rcases h with h | h <;> omega
theorem Kp22.new {o n : Nat} {d : Cl} (h : o + 22 < σ.1) : Kp22 o σ (hnew σ n d) := fun k hk => hnew_ne (by omega)
theorem MoR.kp {o : Nat} {w : Int32 × Int32 × Int32} {I : Nat → Nat → Int32} {L : Nat → Nat → Int64} (h : MoR σ o w I L) (hk : Kp22 o σ σ1) : MoR σ1 o w I L := by
  obtain ⟨a, b⟩ := h
  exact ⟨(hk 0 (by decide)).trans a, fun k h1 h2 => (hk k h2).trans (b k h1 h2)⟩
theorem FrW.kp22 {o wi wa : Nat} (h : FrW wi wa σ σ1) (h1 : Ou o wi) (h2 : Ou o wa) (h3 : o + 22 < σ.1) : Kp22 o σ σ1 := by
  intro k hk
  refine h _ (by omega) (fun e => ?_) (fun e => ?_)
  · rcases h1 with h | h <;> omega
  · rcases h2 with h | h <;> omega
theorem FrR.kp22 {o : Nat} (h : FrR P σ σ1) (hO : ∀ i, i ≤ 11 → Ou o (pd P i)) : Kp22 o σ σ1 := by
  intro k hk
  have ne : ∀ i, i ≤ 11 → o + k ≠ pd P i := fun i hi e => by
    rcases hO i hi with h | h <;> omega
  exact h.2.2 _ ⟨ne 3 (by decide), ne 5 (by decide), ne 7 (by decide), ne 8 (by decide), ne 9 (by decide), ne 11 (by decide)⟩
section CLF
variable {o b sL rm sr wi wa c : Nat} {xs : Nat → Int32} {se ma : Nat → Nat} {Q : Nat → Sv} {M : Nat → Ms} {nw : Int32}
theorem ClR.fr (h : ClR σ o b sL xs rm sr wi wa se ma P E N Q M c nw) (f : FrM o σ σ1) : ClR σ1 o b sL xs rm sr wi wa se ma P E N Q M c nw := by
  obtain ⟨h1, ⟨ag, gA, gT, gR, ml, pl, h2, h2'⟩, h3, h4, h5, h6, h7, h8, ⟨o1, o2, o3, o4, o5⟩, o6, o7, o8⟩ := h
  have hk : ∀ a d, Ou o a → σ.2.2 a = some d → σ1.2.2 a = some d := fun a d ha hd => (f.2.2 a ha).trans hd
  refine ⟨hk _ _ o1 h1, ⟨ag, gA, gT, gR, ml, pl, h2.mono (fun a d ha _ hd => hk a d (o8 a ha) hd), h2'⟩, h3, h4.mono (fun a d ha _ hd => ?_), h5.mono (fun a d ha _ hd => ?_), fun a ha => ?_, hk _ _ o5 h7, ?_, ⟨o1, o2, o3, o4, o5⟩, o6, o7, o8⟩
  · rcases ha with rfl | ⟨p, hp, rfl⟩
    · exact hk _ _ o2 hd
    · exact hk _ _ (o6 p hp) hd
  · rcases ha with rfl | rfl | ⟨j, hj, rfl⟩
    · exact hk _ _ o3 hd
    · exact hk _ _ o4 hd
    · exact hk _ _ (o7 j hj) hd
  · rw [f.1] at ha
    rw [f.2.2 a (Or.inr (by omega))]
    exact h6 a ha
  · rw [f.1]
    exact h8
/-- one call of the class and the same of the reference: the same answer, and the relation holds on -/
def StpR (σ : Hp) (o b sL : Nat) (xs : Nat → Int32) (rm sr wi wa : Nat) (se : Nat → Nat) (nX nY : Nat) (as : List sv) : Prop :=
  ∃ v σ1 σ2, cI rF nX (sA (some rm) :: as) σ = some (v, σ1) ∧ cI rF nY (sA (some o) :: as) σ1 = some (v, σ2) ∧ σ1.2.2 b = some (.inl (99, sL, .inl xs)) ∧ (∃ w, σ1.2.2 o = some (moc o w)) ∧ Rl σ2 o b sL xs rm sr wi wa se ∧ σ2.1 ≤ σ.1 + 64 ∧ σ2.2.1 ≤ σ.2.1 + 512
end CLF
end REL
