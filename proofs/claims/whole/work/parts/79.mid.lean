/-! The class between the making of an event and its place in the history. -/
def Pn (P : Pa) (N x : Nat) (ea d : Nat → Nat) : Pa := (d, ea, va_up (psa P) (N + 1) (x + 3), va_up (psA P) (N + 1) (x + 4), va_up (psf P) (N + 1) (x + 5), va_up (psF P) (N + 1) (x + 6))
def dN (P : Pa) (x : Nat) : Nat → Nat := va_up (va_up (pd P) 10 (x + 1)) 11 (x + 2)
/-- the events' addresses with one more; beyond 50 and 60 what lies in two old arrays -/
def eaN (ea : Nat → Nat) (N x : Nat) (gT gR : Nat → Nat) : Nat → Nat := fun n => if n = N + 1 then x else if 50 ≤ n ∧ n < 59 then (er ea (gT (n - 50))).getD 0 else if 60 ≤ n ∧ n < 69 then (er ea (gR (n - 60))).getD 0 else ea n
theorem eaN_x (ea : Nat → Nat) (N x : Nat) (gT gR : Nat → Nat) : eaN ea N x gT gR (N + 1) = x := if_pos rfl
theorem eaN_n (ea : Nat → Nat) {N x n : Nat} (gT gR : Nat → Nat) (hN : N < 40) (h : n ≤ N) : eaN ea N x gT gR n = ea n := by
  unfold eaN
  rw [if_neg (by omega), if_neg (by omega), if_neg (by omega)]
theorem ArE.ea {σ : Hp} {ea ea' : Nat → Nat} {a N : Nat} {g : Nat → Nat} (h : ArE σ ea a g) (hg : gle g N) (he : ∀ n, n ≤ N → ea' n = ea n) : ArE σ ea' a g := by
  obtain ⟨f, h1, h2⟩ := h
  refine ⟨f, h1, fun j hj => ?_⟩
  rw [h2 j hj]
  unfold er
  rw [he (g j) (hg j hj)]
theorem ArE.jk {σ : Hp} {ea ea' : Nat → Nat} {a B : Nat} {g : Nat → Nat} (hB : 1 ≤ B) (h : ArE σ ea a g) (he : ∀ j, j < 9 → ea' (B + j) = (er ea (g j)).getD 0) : ArE σ ea' a (fun j => if er ea (g j) = none then 0 else B + j) := by
  obtain ⟨f, h1, h2⟩ := h
  refine ⟨f, h1, fun j hj => ?_⟩
  rw [h2 j hj]
  show er ea (g j) = er ea' (if er ea (g j) = none then 0 else B + j)
  by_cases c : er ea (g j) = none
  · rw [if_pos c, c, er_0]
  · rw [if_neg c, er_n (ea := ea') (show B + j ≠ 0 by omega), he j hj]
    cases z : er ea (g j) with
    | none => exact absurd z c
    | some y => rfl
section MID
variable {o b sL rm sr wi wa c N : Nat} {xs : Nat → Int32} {se ma : Nat → Nat} {P : Pa} {E : Ed} {Q : Nat → Sv} {M : Nat → Ms} {nw : Int32}
/-- all that the class holds lies below the heap's size -/
theorem RV.lt {σ : Hp} {ag ml pl : Nat → Int32} {gA gT gR : Nat → Nat} (hF : Hfr σ) (h : RV σ P E N ag gA gT gR ml pl) : ∀ a, Ft P N a → a < σ.1 := by
  obtain ⟨⟨h0, f, h1, -⟩, h2, h3, h4, ⟨f5, h5, -⟩, h6, ⟨f7, h7, -⟩, h8, h9, h10, ⟨f11, h11, -⟩, hn⟩ := h
  intro a ha
  rcases ha with ⟨i, hi, rfl⟩ | ⟨n, n1, n2, hx⟩
  · match i, hi with
    | 0, _ => exact hF.lt h0
    | 1, _ => exact hF.lt h1
    | 2, _ => exact hF.lt h2
    | 3, _ => exact hF.lt h3
    | 4, _ => exact hF.lt h4
    | 5, _ => exact hF.lt h5
    | 6, _ => exact hF.lt h6
    | 7, _ => exact hF.lt h7
    | 8, _ => exact hF.lt h8
    | 9, _ => exact hF.lt h9
    | 10, _ => exact hF.lt h10
    | 11, _ => exact hF.lt h11
    | j + 12, hj => omega
  · obtain ⟨⟨sb, e1⟩, ⟨e2, fa, e3, -⟩, e4, ff, e5, -⟩ := hn n n1 n2
    rcases hx with rfl | rfl | rfl | rfl | rfl
    · exact hF.lt e1
    · exact hF.lt e2
    · exact hF.lt e3
    · exact hF.lt e4
    · exact hF.lt e5
/-- what does not change between: the new addresses -/
def Mst (σ0 : Hp) (P : Pa) (E : Ed) (N : Nat) (ea : Nat → Nat) : Prop := N < 40 ∧ ea (N + 1) = σ0.1 ∧ (∀ n, n ≤ N → ea n = pe P n) ∧ RS P E N ∧ RS (Pn P N σ0.1 ea (dN P σ0.1)) E N ∧ ∀ a, Ft P N a → a < σ0.1
def Mid (σ0 σ : Hp) (o : Nat) (P : Pa) (E : Ed) (N : Nat) (ea : Nat → Nat) (k u t : Nat) (pv : Int64) (v tm : Int32) (q : Int64 × Int64 × (Nat → Nat)) (gd : Int32) (g fF : Nat → Nat) : Prop :=
  EvW σ ea σ0.1 (σ0.1 + 1) (σ0.1 + 2) (σ0.1 + 3) (σ0.1 + 4) (σ0.1 + 5) (σ0.1 + 6) (N + 1) k u t pv v tm q gd g fF ∧
  (∃ ag gA gT gV ml pl, RV σ (Pn P N σ0.1 ea (dN P σ0.1)) E N ag gA gT g ml pl ∧ gle gA N ∧ ArE σ ea (pd P 11) gV) ∧
  σ.2.2 (pd P 10) = some (.inr (6, [sA (some (pd P 11))])) ∧ (∀ i, i ≠ 1 → Kg i σ0 σ) ∧ Kp22 o σ0 σ ∧ Hfr σ ∧ σ.1 = σ0.1 + 7 ∧ σ.2.1 = σ0.2.1 + 43
theorem dN_n {x i : Nat} (h : i ≠ 10) (h' : i ≠ 11) : dN P x i = pd P i := by
  unfold dN
  rw [va_up_ne _ _ h', va_up_ne _ _ h]
theorem dN_10 {x : Nat} : dN P x 10 = x + 1 := by
  unfold dN
  rw [va_up_ne _ _ (by decide), va_up_self]
theorem dN_11 {x : Nat} : dN P x 11 = x + 2 := va_up_self _ _ _
theorem Ft_n {x : Nat} {ea : Nat → Nat} (he : ∀ n, n ≤ N → ea n = pe P n) {a : Nat} (h : Ft (Pn P N x ea (dN P x)) N a) : Ft P N a ∨ a = x + 1 ∨ a = x + 2 := by
  rcases h with ⟨i, hi, rfl⟩ | ⟨n, n1, n2, hx⟩
  · by_cases c10 : i = 10
    · subst c10
      exact Or.inr (Or.inl (dN_10 (P := P)))
    · by_cases c11 : i = 11
      · subst c11
        exact Or.inr (Or.inr (dN_11 (P := P)))
      · exact Or.inl (Or.inl ⟨i, hi, dN_n (P := P) c10 c11⟩)
  · have ne : n ≠ N + 1 := by omega
    have w1 : pe (Pn P N x ea (dN P x)) n = pe P n := he n n2
    have w2 : psa (Pn P N x ea (dN P x)) n = psa P n := va_up_ne _ _ ne
    have w3 : psA (Pn P N x ea (dN P x)) n = psA P n := va_up_ne _ _ ne
    have w4 : psf (Pn P N x ea (dN P x)) n = psf P n := va_up_ne _ _ ne
    have w5 : psF (Pn P N x ea (dN P x)) n = psF P n := va_up_ne _ _ ne
    rw [w1, w2, w3, w4, w5] at hx
    exact Or.inl (Or.inr ⟨n, n1, n2, hx⟩)
/-- a new event's object, its states: all else is as before -/
theorem mk_ev {σ : Hp} (h : ClR σ o b sL xs rm sr wi wa se ma P E N Q M c nw) (hN : N < 40) (k u t : Nat) (pv : Int64) : ∃ σb ea, cV rF nEv_init [sA (some σ.1), sI (nI (N + 1)), sI (nI k), sI (nI u), sI (nI t), sJ pv] (mkO σ 1) = some σb ∧ (∀ l, rcv (mkO σ 1) (sA (some σ.1) :: l) 1 = some σ.1) ∧ Mst σ P E N ea ∧ Mid σ σb o P E N ea k u t pv 0 0 (0, 0, fun _ => 0) 0 (fun _ => 0) (fun _ => 0) := by
  obtain ⟨h1, ⟨ag, gA, gT, gR, ml, pl, h2, h2'⟩, h3, h4, h5, h6, h7, h8, o1, o6, o7, o8⟩ := h
  have hlt := h2.lt h6
  have x0 : (mkO σ 1).2.2 σ.1 = some (.inr (1, cdf 1)) := hnew_same _ _ _
  obtain ⟨σb, e1, w0, ⟨w1, w2⟩, ⟨w3, w4⟩, ⟨w5, w6⟩, s1, s2, F1, k1⟩ := Ev_init (show Hfr (mkO σ 1) from h6.new) x0 (nI (N + 1)) (nI k) (nI u) (nI t) pv
  have n1 : (mkO σ 1).1 = σ.1 + 1 := rfl
  have n2 : (mkO σ 1).2.1 = σ.2.1 + 13 := rfl
  rw [n1] at w0 w1 w2 w3 w4 w5 w6 s1 k1
  rw [n2] at s2
  have old : ∀ a, a < σ.1 → σb.2.2 a = σ.2.2 a := fun a ha => (k1 a (by omega) (by omega)).trans (hnew_ne (by omega))
  let ea := eaN (pe P) N σ.1 gT gR
  have ex : ea (N + 1) = σ.1 := eaN_x _ _ _ _ _
  have en : ∀ n, n ≤ N → ea n = pe P n := fun n hn => eaN_n _ _ _ hN hn
  have arz : ∀ {a : Nat}, σb.2.2 a = some arN → ArE σb ea a (fun _ => 0) := fun ha => ⟨_, ha, fun j _ => by rw [er_0]⟩
  have kpo : ∀ a d, Ft P N a → σ.2.2 a = some d → σb.2.2 a = some d := fun a d ha hd => (old a (hlt a ha)).trans hd
  have v0 : RV σb P E N ag gA gT gR ml pl := h2.mono (fun a d ha _ hd => kpo a d ha hd)
  obtain ⟨hN40, ⟨d57, d511, d711⟩, d89, hS, hinj⟩ := h3
  have pl5 := hlt (pd P 5) (Or.inl ⟨5, by decide, rfl⟩)
  have pl7 := hlt (pd P 7) (Or.inl ⟨7, by decide, rfl⟩)
  refine ⟨σb, ea, e1, fun l => rcv_o x0, ⟨hN, ex, en, ⟨hN40, ⟨d57, d511, d711⟩, d89, hS, hinj⟩, ?_, hlt⟩, ⟨w0, ⟨w1, arz w2⟩, ⟨w3, arz w4⟩, ⟨w5, arz w6⟩, by omega, by omega, by omega⟩, ?_, kpo _ _ (Or.inl ⟨10, by decide, rfl⟩) h2.2.2.2.2.2.2.2.2.2.1, fun i _ a d hd ha => (old a (h6.lt ha)).trans ha, fun i hi => old _ (by omega), F1, by omega, by omega⟩
  · have e5 : pd (Pn P N σ.1 ea (dN P σ.1)) 5 = pd P 5 := dN_n (P := P) (x := σ.1) (i := 5) (by decide) (by decide)
    have e7 : pd (Pn P N σ.1 ea (dN P σ.1)) 7 = pd P 7 := dN_n (P := P) (x := σ.1) (i := 7) (by decide) (by decide)
    have e8 : pd (Pn P N σ.1 ea (dN P σ.1)) 8 = pd P 8 := dN_n (P := P) (x := σ.1) (i := 8) (by decide) (by decide)
    have e9 : pd (Pn P N σ.1 ea (dN P σ.1)) 9 = pd P 9 := dN_n (P := P) (x := σ.1) (i := 9) (by decide) (by decide)
    have e11 : pd (Pn P N σ.1 ea (dN P σ.1)) 11 = σ.1 + 2 := dN_11 (P := P) (x := σ.1)
    unfold RS
    rw [e5, e7, e8, e9, e11]
    refine ⟨hN40, ⟨d57, by omega, by omega⟩, d89, fun n n1 n2 => ?_, fun a b a1 a2 b1 b2 hab => ?_⟩
    · have ne : n ≠ N + 1 := by omega
      have t3 : psA (Pn P N σ.1 ea (dN P σ.1)) n = psA P n := va_up_ne _ _ ne
      have t5 : psF (Pn P N σ.1 ea (dN P σ.1)) n = psF P n := va_up_ne _ _ ne
      have q3 := hlt (psA P n) (Or.inr ⟨n, n1, n2, Or.inr (Or.inr (Or.inl rfl))⟩)
      have q5 := hlt (psF P n) (Or.inr ⟨n, n1, n2, Or.inr (Or.inr (Or.inr (Or.inr rfl)))⟩)
      obtain ⟨⟨u1, u2, -⟩, ⟨u4, u5, -⟩, r⟩ := hS n n1 n2
      rw [t3, t5]
      exact ⟨⟨u1, u2, by omega⟩, ⟨u4, u5, by omega⟩, r⟩
    · have ha : pe (Pn P N σ.1 ea (dN P σ.1)) a = pe P a := en a a2
      have hb : pe (Pn P N σ.1 ea (dN P σ.1)) b = pe P b := en b b2
      rw [ha, hb] at hab
      exact hinj a b a1 a2 b1 b2 hab
  · obtain ⟨⟨z0, f, z1, z1'⟩, z2, z3, z4, z5, z6, z7, z8, z9, z10, z11, zn⟩ := v0
    have g7 : ArE σb ea (pd P 7) (fun j => if er (pe P) (gT j) = none then 0 else 50 + j) := by
      refine ArE.jk (by decide) z7 (fun j hj => ?_)
      show eaN (pe P) N σ.1 gT gR (50 + j) = _
      unfold eaN
      rw [if_neg (by omega), if_pos (by omega), Nat.add_sub_cancel_left]
    have g11 : ArE σb ea (pd P 11) (fun j => if er (pe P) (gR j) = none then 0 else 60 + j) := by
      refine ArE.jk (by decide) z11 (fun j hj => ?_)
      show eaN (pe P) N σ.1 gT gR (60 + j) = _
      unfold eaN
      rw [if_neg (by omega), if_neg (by omega), if_pos (by omega), Nat.add_sub_cancel_left]
    refine ⟨ag, gA, (fun j => if er (pe P) (gT j) = none then 0 else 50 + j), (fun j => if er (pe P) (gR j) = none then 0 else 60 + j), ml, pl, ⟨⟨?_, f, ?_, fun n n1 n2 => ?_⟩, ?_, ?_, ?_, ?_, ?_, ?_, ?_, ?_, ?_, ?_, fun n n1 n2 => ?_⟩, h2', g11⟩
    · show σb.2.2 (dN P σ.1 0) = some (.inr (2, [sA (some (dN P σ.1 1)), sI (nI N)]))
      rw [dN_n (by decide) (by decide), dN_n (by decide) (by decide)]
      exact z0
    · show σb.2.2 (dN P σ.1 1) = _
      rw [dN_n (by decide) (by decide)]
      exact z1
    · show f n = some (ea n)
      rw [en n n2]
      exact z1' n n1 n2
    · show σb.2.2 (dN P σ.1 2) = some (.inr (4, [sA (some (dN P σ.1 0)), sA (some (dN P σ.1 3)), sA (some (dN P σ.1 4)), sA (some (dN P σ.1 6)), sA (some (dN P σ.1 8)), sA (some (dN P σ.1 9))]))
      rw [dN_n (i := 2) (by decide) (by decide), dN_n (i := 0) (by decide) (by decide), dN_n (i := 3) (by decide) (by decide), dN_n (i := 4) (by decide) (by decide), dN_n (i := 6) (by decide) (by decide), dN_n (i := 8) (by decide) (by decide), dN_n (i := 9) (by decide) (by decide)]
      exact z2
    · show σb.2.2 (dN P σ.1 3) = _
      rw [dN_n (by decide) (by decide)]
      exact z3
    · show σb.2.2 (dN P σ.1 4) = some (.inr (6, [sA (some (dN P σ.1 5))]))
      rw [dN_n (i := 4) (by decide) (by decide), dN_n (i := 5) (by decide) (by decide)]
      exact z4
    · show ArE σb ea (dN P σ.1 5) gA
      rw [dN_n (by decide) (by decide)]
      exact z5.ea h2' en
    · show σb.2.2 (dN P σ.1 6) = some (.inr (6, [sA (some (dN P σ.1 7))]))
      rw [dN_n (i := 6) (by decide) (by decide), dN_n (i := 7) (by decide) (by decide)]
      exact z6
    · show ArE σb ea (dN P σ.1 7) _
      rw [dN_n (by decide) (by decide)]
      exact g7
    · show σb.2.2 (dN P σ.1 8) = _
      rw [dN_n (by decide) (by decide)]
      exact z8
    · show σb.2.2 (dN P σ.1 9) = _
      rw [dN_n (by decide) (by decide)]
      exact z9
    · show σb.2.2 (dN P σ.1 10) = some (.inr (6, [sA (some (dN P σ.1 11))]))
      rw [dN_10, dN_11]
      exact w1
    · show ArE σb ea (dN P σ.1 11) _
      rw [dN_11]
      exact arz w2
    · obtain ⟨⟨sb, y1⟩, ⟨y2, y3⟩, y4, y5⟩ := zn n n1 n2
      have ne : n ≠ N + 1 := by omega
      obtain ⟨-, -, ga, gf, -⟩ := hS n n1 n2
      show (∃ sb, σb.2.2 (ea n) = some (evc E n sb (va_up (psa P) (N + 1) (σ.1 + 3) n) (va_up (psf P) (N + 1) (σ.1 + 5) n))) ∧ (σb.2.2 (va_up (psa P) (N + 1) (σ.1 + 3) n) = some (.inr (6, [sA (some (va_up (psA P) (N + 1) (σ.1 + 4) n))])) ∧ ArE σb ea (va_up (psA P) (N + 1) (σ.1 + 4) n) (eA E n)) ∧ (σb.2.2 (va_up (psf P) (N + 1) (σ.1 + 5) n) = some (.inr (6, [sA (some (va_up (psF P) (N + 1) (σ.1 + 6) n))])) ∧ ArE σb ea (va_up (psF P) (N + 1) (σ.1 + 6) n) (eF E n))
      rw [va_up_ne _ _ ne, va_up_ne _ _ ne, va_up_ne _ _ ne, va_up_ne _ _ ne, en n n2]
      exact ⟨⟨sb, y1⟩, ⟨y2, y3.ea ga en⟩, y4, y5.ea gf en⟩
end MID
