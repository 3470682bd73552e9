/-! An event is made: its auths, its state behind it, its place in the history. -/
theorem alw_ex (E : Ed) (e k s t : Nat) (v tm gd tm' gd' : Int32) (pv au ch au' ch' : Int64) (fF fA fF' fA' g : Nat → Nat) (n : Nat) : alw (Ex E e k s t v tm gd pv au ch fF fA) g n = alw (Ex E e k s t v tm' gd' pv au' ch' fF' fA') g n := rfl
section EVX
variable {σ : Hp} {ea : Nat → Nat} {x b1 a1 b2 a2 b3 a3 e k s t N : Nat} {pv : Int64} {v tm : Int32} {q : Int64 × Int64 × (Nat → Nat)} {gd : Int32} {g fF : Nat → Nat} {E : Ed}
theorem EvA.nar (hE : EvA σ ea E N) {a : Nat} {z : Nat × Nat × Ac} (h : σ.2.2 a = some (.inl z)) : ∀ n, 1 ≤ n → n ≤ N → ea n ≠ a := by
  intro n h1 h2 c
  obtain ⟨b1, b2, b3, d⟩ := hE n h1 h2
  rw [c, h] at d
  cases d
theorem Ev_takeAuths (h : EvW σ ea x b1 a1 b2 a2 b3 a3 e k s t pv v tm (0, 0, fun _ => 0) gd g fF) (hE : EvA σ ea E N) (hg : gle g N) (hne : ∀ n, 1 ≤ n → n ≤ N → ea n ≠ x) (hk1 : 1 ≤ k) (hk : k ≤ 7) (hs : s < 6) (ht : t < 6) : ∃ σ1, cV rF nEv_takeAuths [sA (some x)] σ = some σ1 ∧ EvW σ1 ea x b1 a1 b2 a2 b3 a3 e k s t pv v tm (tkA E g s k t) gd g fF ∧ FrX (fun a => a = x ∨ a = a2) σ σ1 := by
  have na := fun (z : EvA σ ea E N) => z
  obtain ⟨fa2, ha2, -⟩ := h.2.2.1.2
  have hX : ∀ n, 1 ≤ n → n ≤ N → ¬ (ea n = x ∨ ea n = a2) := fun n h1 h2 z => by
    rcases z with z | z
    · exact hne n h1 h2 z
    · exact hE.nar ha2 n h1 h2 z
  obtain ⟨σ1, e1, w1, f1⟩ := Ev_takeAuth h hE hg hne (show 0 < 9 by decide)
  have E1 := hE.frx f1 hX
  obtain ⟨σ2, e2, w2, f2⟩ := Ev_takeAuth w1 E1 hg hne (show 1 < 9 by decide)
  have E2 := E1.frx f2 hX
  obtain ⟨σ3, e3, w3, f3⟩ := Ev_takeAuth w2 E2 hg hne (show 3 + s < 9 by omega)
  have E3 := E2.frx f3 hX
  have s3 : (3 : Int32) + nI s = nI (3 + s) := nI_add 3 s
  have t3 : (3 : Int32) + nI t = nI (3 + t) := nI_add 3 t
  have e1' : cV rF nEv_takeAuth [sA (some x), sI (0 : Int32)] σ = some σ1 := e1
  have e2' : cV rF nEv_takeAuth [sA (some x), sI (1 : Int32)] σ1 = some σ2 := e2
  have k1 : (nI k = (1 : Int32)) ↔ k = 1 := nI_eq (a := k) (b := 1) (by omega) (by decide)
  have k2 : (nI k = (2 : Int32)) ↔ k = 2 := nI_eq (a := k) (b := 2) (by omega) (by decide)
  have hm : cI rF nEv_isOfMembership [sA (some x)] σ3 = some (if 1 ≤ k ∧ k ≤ 4 then 1 else 0, σ3) := by
    have ek : eK (Ex E e k s t v tm gd pv (tka E g (3 + s) (tka E g 1 (tka E g 0 (0, 0, fun _ => 0)))).1 (tka E g (3 + s) (tka E g 1 (tka E g 0 (0, 0, fun _ => 0)))).2.1 fF fF) e = k := va_up_self _ _ _
    have := Ev_isOfMembership (w3.evo E fF fF) (by rw [ek]; exact hk)
    rw [ek] at this
    exact this
  -- from the fourth key on
  have fin : ∀ (σ4 : Hp) (q4 : Int64 × Int64 × (Nat → Nat)), EvW σ4 ea x b1 a1 b2 a2 b3 a3 e k s t pv v tm q4 gd g fF → EvA σ4 ea E N → ∃ σ5, fEv_takeAuths_37 (some x) σ4 = some (none, σ5) ∧ EvW σ5 ea x b1 a1 b2 a2 b3 a3 e k s t pv v tm (if k = 1 ∨ k = 2 then tka E g 2 q4 else q4) gd g fF ∧ FrX (fun a => a = x ∨ a = a2) σ4 σ5 := by
    intro σ4 q4 w4 E4
    by_cases c : k = 1 ∨ k = 2
    · obtain ⟨σ5, e5, w5, f5⟩ := Ev_takeAuth w4 E4 hg hne (show 2 < 9 by decide)
      have e5' : cV rF nEv_takeAuth [sA (some x), sI (2 : Int32)] σ4 = some σ5 := e5
      rw [if_pos c]
      refine ⟨σ5, ?_, w5, f5⟩
      rw [eEv_takeAuths_37]
      simp only [w4.f1, Option.bind_some]
      by_cases c1 : k = 1
      · rw [if_pos (k1.mpr c1), eEv_takeAuths_53]
        simp only [w4.rc, e5', Option.bind_some, eEv_takeAuths_58]
      · have c2 : k = 2 := by omega
        have n2 : ¬ ¬ nI k = (2 : Int32) := fun z => z (k2.mpr c2)
        rw [if_neg (fun z => c1 (k1.mp z)), if_neg n2, eEv_takeAuths_53]
        simp only [w4.rc, e5', Option.bind_some, eEv_takeAuths_58]
    · rw [if_neg c]
      refine ⟨σ4, ?_, w4, FrX.rf _ _⟩
      have n1 : ¬ nI k = (1 : Int32) := fun z => c (Or.inl (k1.mp z))
      have n2 : ¬ nI k = (2 : Int32) := fun z => c (Or.inr (k2.mp z))
      rw [eEv_takeAuths_37]
      simp only [w4.f1, Option.bind_some]
      rw [if_neg n1, if_pos n2, eEv_takeAuths_58]
  by_cases c4 : 1 ≤ k ∧ k ≤ 4
  · obtain ⟨σ4, e4, w4, f4⟩ := Ev_takeAuth w3 E3 hg hne (show 3 + t < 9 by omega)
    obtain ⟨σ5, e5, w5, f5⟩ := fin σ4 _ w4 (E3.frx f4 hX)
    have eq : tkA E g s k t = if k = 1 ∨ k = 2 then tka E g 2 (tka E g (3 + t) (tka E g (3 + s) (tka E g 1 (tka E g 0 (0, 0, fun _ => 0))))) else tka E g (3 + t) (tka E g (3 + s) (tka E g 1 (tka E g 0 (0, 0, fun _ => 0)))) := by
      unfold tkA
      rw [if_pos c4]
    rw [eq]
    refine ⟨σ5, cV_of ((eEv_takeAuths _ σ).trans ?_), w5, (((f1.tr f2).tr f3).tr f4).tr f5⟩
    simp only [h.rc, e1', w1.rc, e2', w2.f2, w2.rc, s3, e3, w3.rc, hm, Option.bind_some, if_pos c4, if_neg i10, w3.f3, t3, e4]
    exact e5
  · obtain ⟨σ5, e5, w5, f5⟩ := fin σ3 _ w3 E3
    have eq : tkA E g s k t = if k = 1 ∨ k = 2 then tka E g 2 (tka E g (3 + s) (tka E g 1 (tka E g 0 (0, 0, fun _ => 0)))) else tka E g (3 + s) (tka E g 1 (tka E g 0 (0, 0, fun _ => 0))) := by
      unfold tkA
      rw [if_neg c4]
    rw [eq]
    refine ⟨σ5, cV_of ((eEv_takeAuths _ σ).trans ?_), w5, ((f1.tr f2).tr f3).tr f5⟩
    simp only [h.rc, e1', w1.rc, e2', w2.f2, w2.rc, s3, e3, w3.rc, hm, Option.bind_some, if_neg c4, if_true]
    exact e5
/-- the state behind it takes the state before it over -/
theorem Ev_copy (h : EvW σ ea x b1 a1 b2 a2 b3 a3 e k s t pv v tm q gd g fF) (hE : EvA σ ea E N) (hg : gle g N) : ∃ σ1, cV rF nSt_copyFrom [sA (some b3), sA (some b1)] σ = some σ1 ∧ EvW σ1 ea x b1 a1 b2 a2 b3 a3 e k s t pv v tm q gd g g ∧ FrX (fun a => a = a3) σ σ1 := by
  obtain ⟨h0, ⟨h1, f1, g1, g1'⟩, ⟨h2, A2⟩, ⟨h3, f3, g3, g3'⟩, d12, d13, d23⟩ := h
  have ok : ∀ j, j < 9 → rok σ (f1 j) 1 = true := fun j hj => by
    rw [g1' j hj]
    by_cases c : g j = 0
    · rw [c, er_0]
      exact rok_n _ _
    · rw [er_n c]
      exact (hE (g j) (by omega) (hg j hj)).ok
  have e1 := St_copyFrom h3 g3 h1 g1 (fun z => d13 z.symm) ok
  have kk : ∀ {y : Nat} {fs : Nat × List sv}, σ.2.2 y = some (.inr fs) → (hput σ a3 (cpc f3 f1 9)).2.2 y = some (.inr fs) := fun hy => kp g3 hy (fun z => by cases z)
  refine ⟨_, e1, ⟨kk h0, ⟨kk h1, f1, (hput_ne d13).trans g1, g1'⟩, ⟨kk h2, A2.keep d23⟩, ⟨kk h3, _, hput_same _ _ _, fun j hj => ?_⟩, d12, d13, d23⟩, FrX.put rfl⟩
  show (if j < 9 then f1 j else f3 j) = _
  rw [if_pos hj]
  exact g1' j hj
theorem kyN_Ex (E : Ed) (e k s t : Nat) (v tm gd : Int32) (pv au ch : Int64) (fF fA : Nat → Nat) : eK (Ex E e k s t v tm gd pv au ch fF fA) e = k ∧ kyN (Ex E e k s t v tm gd pv au ch fF fA) e = kyk k t := by
  have e1 : eK (Ex E e k s t v tm gd pv au ch fF fA) e = k := va_up_self _ _ _
  have e2 : eT (Ex E e k s t v tm gd pv au ch fF fA) e = t := va_up_self _ _ _
  refine ⟨e1, ?_⟩
  unfold kyN kyk
  rw [e1, e2]
theorem kyk_lt {k t : Nat} (ht : t < 6) : kyk k t < 9 := by
  unfold kyk
  split
  · omega
  · split
    · omega
    · split <;> omega
theorem Ev_makeGood (h : EvW σ ea x b1 a1 b2 a2 b3 a3 e k s t pv v tm q gd g fF) (hE : EvA σ ea E N) (hg : gle g N) (hne : ∀ n, 1 ≤ n → n ≤ N → ea n ≠ x) (hk : k ≤ 7) (ht : t < 6) (hea : ea e = x) (he : e ≠ 0) : ∃ σ1, cV rF nEv_makeGood [sA (some x)] σ = some σ1 ∧ EvW σ1 ea x b1 a1 b2 a2 b3 a3 e k s t pv v tm q 1 g (fFn k t e 1 g) ∧ FrX (fun a => a = x ∨ a = a3) σ σ1 := by
  let σ1 : Hp := hput σ x (evx (nI e) (nI k) (nI s) (nI t) pv (some b1) (some b2) (some b3) v tm q.1 q.2.1 1)
  have p1 : pfZ σ (some x) 1 12 (1 : Int32) = some σ1 := by
    unfold pfZ
    rw [if_pos (show (1 : Int32) = 0 ∨ (1 : Int32) = 1 from Or.inr rfl)]
    exact pf_o h.1
  have w1 : EvW σ1 ea x b1 a1 b2 a2 b3 a3 e k s t pv v tm q 1 g fF := h.put v tm q.1 q.2.1 1
  have E1 : EvA σ1 ea E N := hE.frx (X := fun a => a = x) (FrX.put rfl) hne
  obtain ⟨σ2, e2, w2, f2⟩ := Ev_copy w1 E1 hg
  obtain ⟨fa3, ha3, -⟩ := w1.2.2.2.1.2
  have E2 : EvA σ2 ea E N := E1.frx f2 (fun n h1 h2 z => E1.nar ha3 n h1 h2 z)
  have eo := w2.evo E fF fF
  obtain ⟨ke1, ke2⟩ := kyN_Ex E e k s t v tm 1 pv q.1 q.2.1 fF fF
  have ek := Ev_key eo (by rw [ke1]; exact hk)
  have r3 : ∀ l, rcv σ1 (sA (some b3) :: l) 6 = some b3 := fun l => rcv_o w1.2.2.2.1.1
  have r3' : ∀ l, rcv σ2 (sA (some b3) :: l) 6 = some b3 := fun l => rcv_o w2.2.2.2.1.1
  have fr : FrX (fun a => a = x ∨ a = a3) σ σ2 := (FrX.put (Or.inl rfl)).tr (f2.mono (fun z hz => Or.inr hz))
  have fe : fFn k t e 1 g = if k = 7 then g else va_up g (kyk k t) e := by
    unfold fFn
    rw [if_neg i10]
  rw [fe]
  by_cases c7 : k = 7
  · rw [if_pos c7]
    have kI : kyI (Ex E e k s t v tm 1 pv q.1 q.2.1 fF fF) e = -1 := by
      unfold kyI
      rw [ke1, c7]
      rfl
    have e3 : cV rF nSt_put [sA (some b3), sA (some x)] σ2 = some σ2 := by
      refine cV_of ((eSt_put _ _ σ2).trans ?_)
      simp only [w2.rc, ek, kI, Option.bind_some, if_true, eSt_put_17]
    refine ⟨σ2, cV_of ((eEv_makeGood _ σ).trans ?_), w2, fr⟩
    simp only [p1, w1.f7, w1.f5, r3, e2, w2.f7, r3', e3, Option.bind_some]
  · rw [if_neg c7]
    have kI : kyI (Ex E e k s t v tm 1 pv q.1 q.2.1 fF fF) e = nI (kyk k t) := by
      rw [kyI_N (by rw [ke1]; exact c7), ke2]
    have k9 := kyk_lt (k := k) ht
    have nm1 : ¬ nI (kyk k t) = (-1 : Int32) := fun z => by
      have : ¬ nI (kyk k t) < 0 := nIn0 (by omega)
      rw [z] at this
      exact this (by decide)
    obtain ⟨h0, ⟨h1, A1⟩, ⟨h2, A2⟩, ⟨h3, A3⟩, d12, d13, d23⟩ := w2
    have g3 : gfA σ2 (some b3) 6 0 = some (some a3) := gfA_o h3 rfl
    obtain ⟨cc, w3, A3'⟩ := A3.put k9 (x := some x) (n := e) (by rw [er_n he, hea]) (rok_o h0)
    obtain ⟨f3, hf3, -⟩ := A3
    let σ3 : Hp := hput σ2 a3 (.inl cc)
    have kk : ∀ {y : Nat} {fs : Nat × List sv}, σ2.2.2 y = some (.inr fs) → σ3.2.2 y = some (.inr fs) := fun hy => kp hf3 hy (fun z => by cases z)
    have W3 : EvW σ3 ea x b1 a1 b2 a2 b3 a3 e k s t pv v tm q 1 g (va_up g (kyk k t) e) := ⟨kk h0, ⟨kk h1, A1.keep d13⟩, ⟨kk h2, A2.keep d23⟩, ⟨kk h3, A3'⟩, d12, d13, d23⟩
    have e3 : cV rF nSt_put [sA (some b3), sA (some x)] σ2 = some σ3 := by
      refine cV_of ((eSt_put _ _ σ2).trans ?_)
      simp only [show rcv σ2 [sA (some x)] 1 = some x from rcv_o h0, ek, kI, Option.bind_some, if_neg nm1, g3, w3, eSt_put_17]
      rfl
    have f7' : gfA σ2 (some x) 1 7 = some (some b3) := gfA_o h0 rfl
    refine ⟨σ3, cV_of ((eEv_makeGood _ σ).trans ?_), W3, fr.tr (FrX.put (Or.inr rfl))⟩
    simp only [p1, w1.f7, w1.f5, r3, e2, f7', r3', e3, Option.bind_some]
theorem Hi_keep {hi ev : Nat} (h : HiR σ hi ev ea N) (hN : N < 40) (hx : ea (N + 1) = x) (ho : ∃ fs, σ.2.2 x = some (.inr (1, fs))) : ∃ σ1, cV rF nHi_keep [sA (some hi), sA (some x)] σ = some σ1 ∧ HiR σ1 hi ev ea (N + 1) ∧ FrX (fun a => a = hi ∨ a = ev) σ σ1 := by
  obtain ⟨h1, f, h2, h3⟩ := h
  obtain ⟨fs, hxo⟩ := ho
  let σ1 : Hp := hput σ hi (.inr (2, [sA (some ev), sI (nI (N + 1))]))
  have g1 : gfI σ (some hi) 2 1 = some (nI N) := gfI_o h1 rfl
  have p1 : pfI σ (some hi) 2 1 (nI (N + 1)) = some σ1 := pf_o h1
  have x1 : σ1.2.2 hi = some (.inr (2, [sA (some ev), sI (nI (N + 1))])) := hput_same _ _ _
  have v1 : σ1.2.2 ev = some (.inl (3, 41, .inr (.inr f))) := kp h1 h2 (fun z => by cases z)
  have y1 : σ1.2.2 x = some (.inr (1, fs)) := kp h1 hxo (fun z => by
    injection z with z
    injection z with z1 z2
    cases z1)
  have g2 : gfA σ1 (some hi) 2 0 = some (some ev) := gfA_o x1 rfl
  have g3 : gfI σ1 (some hi) 2 1 = some (nI (N + 1)) := gfI_o x1 rfl
  have s1 := asA_o (x := some x) v1 (show aec 3 = some 1 from rfl) (show N + 1 < 41 by omega) (by decide) (rok_o y1)
  have n40 : ¬ (40 : Int32) ≤ nI N := nIng (c := 40) (by decide) hN
  refine ⟨hput σ1 ev (.inl (3, 41, .inr (.inr (va_up f (N + 1) (some x))))), cV_of ((eHi_keep _ _ σ).trans ?_), ⟨kp v1 x1 (fun z => by cases z), va_up f (N + 1) (some x), hput_same _ _ _, fun n n1 n2 => ?_⟩, (FrX.put (Or.inl rfl)).tr (FrX.put (Or.inr rfl))⟩
  · simp only [g1, Option.bind_some, if_neg n40, nI1, p1, g2, g3, s1, eHi_keep_29]
  · by_cases c : n = N + 1
    · rw [c, va_up_self, hx]
    · rw [va_up_ne _ _ c]
      exact h3 n n1 (by omega)
end EVX
