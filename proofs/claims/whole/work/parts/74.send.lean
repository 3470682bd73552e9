/-! Messages are sent: one, or one for each event of a set. offer. -/
abbrev Mq : Type := (Nat → Ms) × Nat
def sd1 (q : Mq) (m : Ms) : Mq := (va_up q.1 q.2 m, if q.2 = 24 then 24 else q.2 + 1)
def sda (S : Int64) (k f t : Int32) : Nat → Nat → Mq → Mq
  | _, 0, q => q
  | n, d + 1, q => sda S k f t (n + 1) d (if hb S n = true then sd1 q (k, nI n, f, t, 0) else q)
theorem FrW.rf (wi wa : Nat) (σ : Hp) : FrW wi wa σ σ := fun _ _ _ _ => rfl
theorem FrW.tr {wi wa : Nat} {σ σ1 σ2 : Hp} (h1 : FrW wi wa σ σ1) (hl : σ.1 ≤ σ1.1) (h2 : FrW wi wa σ1 σ2) : FrW wi wa σ σ2 := fun a ha hx hy => (h2 a (by omega) hx hy).trans (h1 a ha hx hy)
/-- what a message must be -/
def Mok (N : Nat) (m : Ms) : Prop := (m.1 = 1 ∨ m.1 = 2) ∧ (∃ e, 1 ≤ e ∧ e ≤ N ∧ m.2.1 = nI e) ∧ (∃ p, p < 3 ∧ m.2.2.1 = nI p) ∧ (∃ q, q < 3 ∧ m.2.2.2.1 = nI q) ∧ (m.2.2.2.2 = 0 ∨ m.2.2.2.2 = 1)
theorem MsI.sdz {N : Nat} {q : Mq} {m : Ms} (h : MsI N q.1 q.2) (hm : Mok N m) : MsI N (sd1 q m).1 (sd1 q m).2 := by
  intro j hj
  replace hj : j < (if q.2 = 24 then 24 else q.2 + 1) := hj
  show Mok N (va_up q.1 q.2 m j)
  by_cases e : j = q.2
  · rw [e, va_up_self]
    exact hm
  · rw [va_up_ne _ _ e]
    refine h j ?_
    by_cases c : q.2 = 24
    · rw [if_pos c] at hj
      omega
    · rw [if_neg c] at hj
      omega
theorem MsI.sdaz {N : Nat} {S : Int64} {k f t : Int32} (hk : k = 1 ∨ k = 2) (hf : ∃ p, p < 3 ∧ f = nI p) (ht : ∃ p, p < 3 ∧ t = nI p) : ∀ (d n : Nat) (q : Mq), 1 ≤ n → n + d = N + 1 → MsI N q.1 q.2 → MsI N (sda S k f t n d q).1 (sda S k f t n d q).2 := by
  intro d
  induction d with
  | zero => intro n q _ _ h; exact h
  | succ d ih =>
    intro n q h1 hn h
    show MsI N (sda S k f t (n + 1) d (if hb S n = true then sd1 q (k, nI n, f, t, 0) else q)).1 (sda S k f t (n + 1) d (if hb S n = true then sd1 q (k, nI n, f, t, 0) else q)).2
    refine ih _ _ (by omega) (by omega) ?_
    by_cases c : hb S n = true
    · rw [if_pos c]
      exact h.sdz ⟨hk, ⟨n, h1, by omega, rfl⟩, hf, ht, Or.inl rfl⟩
    · rw [if_neg c]
      exact h
section SND
variable {o b sL rm sr wi wa N : Nat} {xs : Nat → Int32} {se : Nat → Nat} {P : Pa} {E : Ed} {Q : Nat → Sv} {nw : Int32}
theorem ClR.send {σ : Hp} {ma : Nat → Nat} {q : Mq} (h : ClR σ o b sL xs rm sr wi wa se ma P E N Q q.1 q.2 nw) (a x d e : Int32) : ∃ σ1 ma1, cV rF nWi_send [sA (some wi), sI a, sI x, sI d, sI e] σ = some σ1 ∧ ClR σ1 o b sL xs rm sr wi wa se ma1 P E N Q (sd1 q (a, x, d, e, 0)).1 (sd1 q (a, x, d, e, 0)).2 nw ∧ FrW wi wa σ σ1 ∧ σ.1 ≤ σ1.1 ∧ σ1.1 + q.2 = σ.1 + (sd1 q (a, x, d, e, 0)).2 ∧ σ1.2.1 + 5 * q.2 = σ.2.1 + 5 * (sd1 q (a, x, d, e, 0)).2 := by
  have hC := h
  obtain ⟨h1, -, -, h4, h5, h6, h7, h8, ⟨o1, o2, o3, o4, o5⟩, o6, o7, -⟩ := h
  obtain ⟨σ1, e1, w1, F1, s1, s2, f1⟩ := Wi_send h6 h5 a x d e
  have kk : ∀ i, i ≠ 4 → Kg i σ σ1 := fun i hi => f1.kg h6 h5 hi
  have hl : σ.1 ≤ σ1.1 := by
    rw [s1]
    split <;> omega
  have e2 : (sd1 q (a, x, d, e, 0)).2 = if q.2 = 24 then 24 else q.2 + 1 := rfl
  refine ⟨σ1, va_up ma q.2 σ.1, e1, hC.upd (kk 2 (by decide) _ _ rfl h1) (kk 1 (by decide)) (h4.kg (kk 3 (by decide))) w1 F1 (kk 5 (by decide)) hl (fun j hj => ?_), f1, hl, ?_, ?_⟩
  · by_cases c : j = q.2
    · rw [c, va_up_self]
      exact Or.inr h8
    · rw [va_up_ne _ _ c]
      refine o7 j ?_
      rw [e2] at hj
      by_cases c2 : q.2 = 24
      · rw [if_pos c2] at hj
        omega
      · rw [if_neg c2] at hj
        omega
  · rw [s1, e2]
    split <;> omega
  · rw [s2, e2]
    split <;> omega
theorem MoA.send {σ : Hp} {I : Nat → Nat → Int32} {L : Nat → Nat → Int64} {q : Mq} (h : MoA σ o E N Q q.1 q.2 nw I L) (a x d e : Int32) : ∃ σ1 I1, cV rF nMo_send [sA (some o), sI a, sI x, sI d, sI e] σ = some σ1 ∧ MoA σ1 o E N Q (sd1 q (a, x, d, e, 0)).1 (sd1 q (a, x, d, e, 0)).2 nw I1 L ∧ FrM o σ σ1 := by
  obtain ⟨m1, m2, m3, m4, m5, m6⟩ := h
  obtain ⟨σ1, I1, e1, v1, i1, j1, f1⟩ := Mo_send m1 m6 rfl a x d e
  refine ⟨σ1, I1, e1, ⟨v1, m2.of2 (fun k _ k6 => i1 k (by omega)), m3.of (i1 11 (by decide)), fun n a1 a2 => ?_, fun r hr => ?_, j1⟩, f1⟩
  · rw [i1 10 (by decide)]
    exact m4 n a1 a2
  · rw [i1 1 (by decide), i1 17 (by decide)]
    exact m5 r hr
theorem Rm_sendAll_3 (S : Int64) (k f t : Int32) : ∀ (d n : Nat) (σ : Hp) (ma : Nat → Nat) (q : Mq), 1 ≤ n → n + d = N + 1 → ClR σ o b sL xs rm sr wi wa se ma P E N Q q.1 q.2 nw → ∃ σ1 ma1, fRm_sendAll_3 (some rm) k S f t (nI n) σ = some (none, σ1) ∧ ClR σ1 o b sL xs rm sr wi wa se ma1 P E N Q (sda S k f t n d q).1 (sda S k f t n d q).2 nw ∧ FrW wi wa σ σ1 ∧ σ.1 ≤ σ1.1 ∧ σ1.1 + q.2 = σ.1 + (sda S k f t n d q).2 ∧ σ1.2.1 + 5 * q.2 = σ.2.1 + 5 * (sda S k f t n d q).2 := by
  intro d
  induction d with
  | zero =>
    intro n σ ma q h1 hn h
    have hC := h
    obtain ⟨r1, ⟨ag, gA, gT, gR, ml, pl, hv, -⟩, ⟨hN, -⟩, -⟩ := h
    have : n = N + 1 := by omega
    subst this
    refine ⟨σ, ma, ?_, hC, FrW.rf _ _ _, Nat.le_refl _, rfl, rfl⟩
    rw [eRm_sendAll_3]
    simp only [r1.f0, hv.hi.made, Option.bind_some, if_pos (nN1 hN)]
  | succ d ih =>
    intro n σ ma q h1 hn h
    have hC := h
    obtain ⟨r1, ⟨ag, gA, gT, gR, ml, pl, hv, -⟩, ⟨hN, -⟩, -, h5, -⟩ := h
    have hle : n ≤ N := by omega
    have n64 : n < 64 := by omega
    rw [eRm_sendAll_3]
    simp only [r1.f0, hv.hi.made, Option.bind_some, if_neg (nN hN hle), Rm_isIn n64, eRm_sendAll_38, nI1]
    by_cases c : hb S n = true
    · have e : sda S k f t n (d + 1) q = sda S k f t (n + 1) d (sd1 q (k, nI n, f, t, 0)) := by
        show sda S k f t (n + 1) d (if hb S n = true then _ else q) = _
        rw [if_pos c]
      obtain ⟨σ1, ma1, e1, c1, f1, l1, s1, s2⟩ := hC.send k (nI n) f t
      obtain ⟨σ2, ma2, e2, c2, f2, l2, t1, t2⟩ := ih (n + 1) σ1 ma1 _ (by omega) (by omega) c1
      rw [e, if_pos c, if_neg i10]
      refine ⟨σ2, ma2, ?_, c2, f1.tr l1 f2, by omega, by omega, by omega⟩
      simp only [r1.f3, h5.rc, e1, Option.bind_some]
      exact e2
    · have e : sda S k f t n (d + 1) q = sda S k f t (n + 1) d q := by
        show sda S k f t (n + 1) d (if hb S n = true then _ else q) = _
        rw [if_neg c]
      rw [e, if_neg c, if_pos rfl]
      exact ih (n + 1) σ ma q (by omega) (by omega) hC
theorem Rm_sendAll (S : Int64) (k f t : Int32) {σ : Hp} {ma : Nat → Nat} {q : Mq} (h : ClR σ o b sL xs rm sr wi wa se ma P E N Q q.1 q.2 nw) : ∃ σ1 ma1, cV rF nRm_sendAll [sA (some rm), sI k, sJ S, sI f, sI t] σ = some σ1 ∧ ClR σ1 o b sL xs rm sr wi wa se ma1 P E N Q (sda S k f t 1 N q).1 (sda S k f t 1 N q).2 nw ∧ FrW wi wa σ σ1 ∧ σ.1 ≤ σ1.1 ∧ σ1.1 + q.2 = σ.1 + (sda S k f t 1 N q).2 ∧ σ1.2.1 + 5 * q.2 = σ.2.1 + 5 * (sda S k f t 1 N q).2 := by
  obtain ⟨σ1, ma1, e1, r⟩ := Rm_sendAll_3 (xs := xs) S k f t N 1 σ ma q (Nat.le_refl _) (by omega) h
  exact ⟨σ1, ma1, cV_of ((eRm_sendAll _ _ _ _ _ σ).trans e1), r⟩
theorem Mo_offer_34 (hN : N ≤ 40) (S : Int64) (f t : Int32) : ∀ (d n : Nat) (σ : Hp) (I : Nat → Nat → Int32) (L : Nat → Nat → Int64) (q : Mq), 1 ≤ n → n + d = N + 1 → MoA σ o E N Q q.1 q.2 nw I L → ∃ σ1 I1, fMo_offer_34 (some o) f t S (nI n) σ = some (some (sI (nI (cnt S 40))), σ1) ∧ MoA σ1 o E N Q (sda S 1 f t n d q).1 (sda S 1 f t n d q).2 nw I1 L ∧ FrM o σ σ1 := by
  intro d
  induction d with
  | zero =>
    intro n σ I L q h1 hn h
    have m1 := h.1
    have : n = N + 1 := by omega
    subst this
    refine ⟨σ, I, ?_, h, FrM.rf _ _⟩
    rw [eMo_offer_34]
    simp only [m1.made, Option.bind_some, if_pos (nN1 hN), Mo_size]
  | succ d ih =>
    intro n σ I L q h1 hn h
    have m1 := h.1
    have hle : n ≤ N := by omega
    have n64 : n < 64 := by omega
    rw [eMo_offer_34]
    simp only [m1.made, Option.bind_some, if_neg (nN hN hle), Mo_has n64, eMo_offer_61, nI1]
    by_cases c : hb S n = true
    · have e : sda S 1 f t n (d + 1) q = sda S 1 f t (n + 1) d (sd1 q (1, nI n, f, t, 0)) := by
        show sda S 1 f t (n + 1) d (if hb S n = true then _ else q) = _
        rw [if_pos c]
      obtain ⟨σ1, I1, e1, c1, f1⟩ := h.send 1 (nI n) f t
      obtain ⟨σ2, I2, e2, c2, f2⟩ := ih (n + 1) σ1 I1 L _ (by omega) (by omega) c1
      rw [e, if_pos c, if_neg i10]
      refine ⟨σ2, I2, ?_, c2, f1.tr f2⟩
      simp only [m1.rc, e1, Option.bind_some]
      exact e2
    · have e : sda S 1 f t n (d + 1) q = sda S 1 f t (n + 1) d q := by
        show sda S 1 f t (n + 1) d (if hb S n = true then _ else q) = _
        rw [if_neg c]
      rw [e, if_neg c, if_pos rfl]
      exact ih (n + 1) σ I L q (by omega) (by omega) h
end SND
section OFR
variable {σ : Hp} {o b sL rm sr wi wa : Nat} {xs : Nat → Int32} {se : Nat → Nat}
theorem edq_in {E : Ed} {N : Nat} {q : Sv} (h : SvI E N q) : ∀ n, hb q.2.1 n = true → 1 ≤ n ∧ n ≤ N := fun n hn => (h.1.2.1 n hn).1
theorem edq_40 {E : Ed} {N : Nat} {q : Sv} (hN : N ≤ 40) (h : SvI E N q) : ∀ i, hb (edq E N q) i = true → 1 ≤ i ∧ i ≤ 40 := fun i hi => by
  unfold edq at hi
  rw [hb_and, Bool.and_eq_true] at hi
  have := edq_in h i hi.1
  omega
theorem stp_offer (hR : Rl σ o b sL xs rm sr wi wa se) (x y : Int32) : StpR σ o b sL xs rm sr wi wa se nRm_offer nMo_offer [sI x, sI y] := by
  have hR' := hR
  obtain ⟨ma, P, E, N, Q, M, c, nw, I, L, hC, hM, hI, hS, hMs⟩ := hR'
  have hC' := hC
  obtain ⟨h1, ⟨ag, gA, gT, gR, ml, pl, hv, -⟩, ⟨hN, -⟩, h4, h5, h6, h7, h8, ⟨o1, o2, o3, o4, o5⟩, o6, o7, -⟩ := hC'
  have m1 := hM.1
  rcases rng 3 (by decide) x with ⟨p, hp, rfl⟩ | hx
  · rcases rng 3 (by decide) y with ⟨r, hr, rfl⟩ | hy
    · by_cases pr : nI p = nI r
      · have n2 : ¬ ¬ nI p = nI r := fun z => z pr
        refine hR.ro (v := -1) (cI_of ((eRm_offer _ _ _ σ).trans ?_)) (cI_of ((eMo_offer _ _ _ σ).trans ?_))
        · simp only [sv_in hp, sv_in hr, Option.bind_some, if_neg i10, if_neg n2, eRm_offer_19]
        · simp only [mo3_in hp, mo3_in hr, Option.bind_some, if_neg i10, if_neg n2, eMo_offer_23]
      · obtain ⟨σ1, ma1, e1, c1, f1, l1, s1, s2⟩ := Rm_sendAll (edq E N (Q p)) 1 (nI p) (nI r) (q := (M, c)) hC
        have k22 := f1.kp22 o3 o4 h8
        have hM1 : MoA σ1 o E N Q M c nw I L := ⟨m1.kp k22, hM.2⟩
        obtain ⟨σ2, I2, e2, v2, f2⟩ := Mo_offer_34 hN (edq E N (Q p)) (nI p) (nI r) N 1 σ1 I L (M, c) (Nat.le_refl _) (by omega) hM1
        have ee : cJ rF nMo_endsOf [sA (some o), sI (nI p)] σ1 = some (edq E N (Q p), σ1) := (Mo_endsOf hN hM1.1 hM1.2.1 hM1.2.2.2.2.1 rfl hp).trans (congrArg (fun z => some (z, σ1)) (eds_eq hN (edq_in (hS p hp))))
        have ec : cJ rF nRm_endsOf [sA (some rm), sA (some (se p))] σ = some (edq E N (Q p), σ) := Rm_endsOf hN h1 hv.hi hv.ev (h4.2.1 p hp)
        have e2' : fMo_offer_34 (some o) (nI p) (nI r) (edq E N (Q p)) (1 : Int32) σ1 = some (some (sI (nI (cnt (edq E N (Q p)) 40))), σ2) := e2
        have c24 := c1.2.2.2.2.1.2.2.2.2
        refine ⟨nI (cnt (edq E N (Q p)) 40), σ1, σ2, cI_of ((eRm_offer _ _ _ σ).trans ?_), cI_of ((eMo_offer _ _ _ σ1).trans ?_), c1.2.2.2.2.2.2.1, ⟨_, hM1.1.1⟩, ⟨ma1, P, E, N, Q, _, _, nw, I2, L, c1.fr f2, v2, hI, hS, hMs.sdaz (Or.inl rfl) ⟨p, hp, rfl⟩ ⟨r, hr, rfl⟩ N 1 (M, c) (Nat.le_refl _) (by omega)⟩, ?_, ?_⟩
        · simp only [sv_in hp, sv_in hr, Option.bind_some, if_neg i10, if_pos pr, h1.f2, h4.at hp, h1.rc, ec, e1, Lo_bitCount _ (edq_40 hN (hS p hp))]
        · simp only [mo3_in hp, mo3_in hr, Option.bind_some, if_neg i10, if_pos pr, hM1.1.rc, ee, e2']
        · rw [f2.1]
          omega
        · rw [f2.2.1]
          omega
    · refine hR.ro (v := -1) (cI_of ((eRm_offer _ _ _ σ).trans ?_)) (cI_of ((eMo_offer _ _ _ σ).trans ?_))
      · simp only [sv_in hp, sv_out hy, Option.bind_some, if_neg i10, if_true, eRm_offer_19]
      · simp only [mo3_in hp, mo3_out hy, Option.bind_some, if_neg i10, if_true, eMo_offer_23]
  · refine hR.ro (v := -1) (cI_of ((eRm_offer _ _ _ σ).trans ?_)) (cI_of ((eMo_offer _ _ _ σ).trans ?_))
    · simp only [sv_out hx, Option.bind_some, if_true, eRm_offer_19]
    · simp only [mo3_out hx, Option.bind_some, if_true, eMo_offer_23]
end OFR
