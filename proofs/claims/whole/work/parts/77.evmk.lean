/-! An event is made: the class's Event. -/
/-- only the named cells have changed; nothing was made -/
def FrX (X : Nat → Prop) (σ σ1 : Hp) : Prop := σ1.1 = σ.1 ∧ σ1.2.1 = σ.2.1 ∧ ∀ a, ¬ X a → σ1.2.2 a = σ.2.2 a
theorem FrX.rf (X : Nat → Prop) (σ : Hp) : FrX X σ σ := ⟨rfl, rfl, fun _ _ => rfl⟩
theorem FrX.tr {X : Nat → Prop} {a b c : Hp} (h1 : FrX X a b) (h2 : FrX X b c) : FrX X a c := ⟨h2.1.trans h1.1, h2.2.1.trans h1.2.1, fun x hx => (h2.2.2 x hx).trans (h1.2.2 x hx)⟩
theorem FrX.put {X : Nat → Prop} {σ : Hp} {x : Nat} {d : Cl} (h : X x) : FrX X σ (hput σ x d) := ⟨rfl, rfl, fun a ha => hput_ne (fun e => ha (e ▸ h))⟩
theorem FrX.mono {X Y : Nat → Prop} {a b : Hp} (h : FrX X a b) (hXY : ∀ x, X x → Y x) : FrX Y a b := ⟨h.1, h.2.1, fun x hx => h.2.2 x (fun z => hx (hXY x z))⟩
theorem FrX.hfr {X : Nat → Prop} {σ σ1 : Hp} (h : FrX X σ σ1) (hF : Hfr σ) (hX : ∀ x, X x → x < σ.1) : Hfr σ1 := by
  intro a ha
  rw [h.1] at ha
  rw [h.2.2 a (fun z => by have := hX a z; omega)]
  exact hF a ha
def arN : Cl := .inl (3, 9, .inr (.inr fun _ => none))
/-- a new State: its object, its array behind it -/
theorem new_St {σ : Hp} (hF : Hfr σ) : ∃ σ1, rcv (mkO σ 6) [sA (some σ.1)] 6 = some σ.1 ∧ cV rF nSt_init [sA (some σ.1)] (mkO σ 6) = some σ1 ∧ σ1.2.2 σ.1 = some (.inr (6, [sA (some (σ.1 + 1))])) ∧ σ1.2.2 (σ.1 + 1) = some arN ∧ σ1.1 = σ.1 + 2 ∧ σ1.2.1 = σ.2.1 + 10 ∧ Hfr σ1 ∧ ∀ a, a < σ.1 → σ1.2.2 a = σ.2.2 a := by
  let σa : Hp := mkO σ 6
  have a0 : σa.2.2 σ.1 = some (.inr (6, [sA none])) := hnew_same _ _ _
  let σb : Hp := hnew σa 9 arN
  have b1 : mkA σa 3 (9 : Int32) = some σb := rfl
  have b0 : σb.2.2 σ.1 = some (.inr (6, [sA none])) := (hnew_ne (show σ.1 ≠ σ.1 + 1 by omega)).trans a0
  have bA : σb.2.2 (σ.1 + 1) = some arN := hnew_same σa _ _
  let σc : Hp := hput σb σ.1 (.inr (6, [sA (some (σ.1 + 1))]))
  have p1 : pfA σb (some σ.1) 6 0 (some (Prod.fst σa)) = some σc := pf_o b0
  refine ⟨σc, rcv_o a0, cV_of ((eSt_init _ σa).trans ?_), hput_same _ _ _, (hput_ne (by omega)).trans bA, rfl, rfl, ((hF.new).new).put (show σ.1 < σ.1 + 1 + 1 by omega), fun a ha => ?_⟩
  · simp only [b1, p1, Option.bind_some]
  · exact (hput_ne (by omega)).trans ((hnew_ne (show a ≠ σ.1 + 1 by omega)).trans (hnew_ne (by omega)))
def evx (n k s t : Int32) (pv : Int64) (b1 b2 b3 : Option Nat) (v tm : Int32) (au ch : Int64) (gd : Int32) : Cl := .inr (1, [sI n, sI k, sI s, sI t, sJ pv, sA b1, sA b2, sA b3, sI v, sI tm, sJ au, sJ ch, sI gd])
theorem Ev_init {σ : Hp} {x : Nat} (hF : Hfr σ) (hx : σ.2.2 x = some (.inr (1, cdf 1))) (n k s t : Int32) (pv : Int64) : ∃ σ1, cV rF nEv_init [sA (some x), sI n, sI k, sI s, sI t, sJ pv] σ = some σ1 ∧ σ1.2.2 x = some (evx n k s t pv (some σ.1) (some (σ.1 + 2)) (some (σ.1 + 4)) 0 0 0 0 0) ∧ (σ1.2.2 σ.1 = some (.inr (6, [sA (some (σ.1 + 1))])) ∧ σ1.2.2 (σ.1 + 1) = some arN) ∧ (σ1.2.2 (σ.1 + 2) = some (.inr (6, [sA (some (σ.1 + 3))])) ∧ σ1.2.2 (σ.1 + 3) = some arN) ∧ (σ1.2.2 (σ.1 + 4) = some (.inr (6, [sA (some (σ.1 + 5))])) ∧ σ1.2.2 (σ.1 + 5) = some arN) ∧ σ1.1 = σ.1 + 6 ∧ σ1.2.1 = σ.2.1 + 30 ∧ Hfr σ1 ∧ ∀ a, a ≠ x → a < σ.1 → σ1.2.2 a = σ.2.2 a := by
  have lx := hF.lt hx
  have x0 : σ.2.2 x = some (evx 0 0 0 0 0 none none none 0 0 0 0 0) := hx
  obtain ⟨s1, r1, i1, o1, a1, n1, m1, F1, k1⟩ := new_St hF
  have x1 : s1.2.2 x = some (evx 0 0 0 0 0 none none none 0 0 0 0 0) := (k1 x lx).trans x0
  let s2 : Hp := hput s1 x (evx 0 0 0 0 0 (some σ.1) none none 0 0 0 0 0)
  have p2 : pfA s1 (some x) 1 5 (some (Prod.fst σ)) = some s2 := pf_o x1
  have F2 : Hfr s2 := F1.put (by omega)
  have n2 : s2.1 = σ.1 + 2 := n1
  obtain ⟨s3, r3, i3, o3, a3, n3, m3, F3, k3⟩ := new_St F2
  rw [n2] at o3 a3 n3 k3
  have x3 : s3.2.2 x = some (evx 0 0 0 0 0 (some σ.1) none none 0 0 0 0 0) := (k3 x (by omega)).trans (hput_same _ _ _)
  let s4 : Hp := hput s3 x (evx 0 0 0 0 0 (some σ.1) (some (Prod.fst s2)) none 0 0 0 0 0)
  have p4 : pfA s3 (some x) 1 6 (some (Prod.fst s2)) = some s4 := pf_o x3
  have F4 : Hfr s4 := F3.put (by omega)
  have n4 : s4.1 = σ.1 + 4 := n3
  obtain ⟨s5, r5, i5, o5, a5, n5, m5, F5, k5⟩ := new_St F4
  rw [n4] at o5 a5 n5 k5
  have x5 : s5.2.2 x = some (evx 0 0 0 0 0 (some σ.1) (some (Prod.fst s2)) none 0 0 0 0 0) := (k5 x (by omega)).trans (hput_same _ _ _)
  let s6 : Hp := hput s5 x (evx 0 0 0 0 0 (some σ.1) (some (Prod.fst s2)) (some (Prod.fst s4)) 0 0 0 0 0)
  have p6 : pfA s5 (some x) 1 7 (some (Prod.fst s4)) = some s6 := pf_o x5
  let s7 : Hp := hput s6 x (evx n 0 0 0 0 (some σ.1) (some (Prod.fst s2)) (some (Prod.fst s4)) 0 0 0 0 0)
  have p7 : pfI s6 (some x) 1 0 n = some s7 := pf_o (hput_same _ _ _)
  let s8 : Hp := hput s7 x (evx n k 0 0 0 (some σ.1) (some (Prod.fst s2)) (some (Prod.fst s4)) 0 0 0 0 0)
  have p8 : pfI s7 (some x) 1 1 k = some s8 := pf_o (hput_same _ _ _)
  let s9 : Hp := hput s8 x (evx n k s 0 0 (some σ.1) (some (Prod.fst s2)) (some (Prod.fst s4)) 0 0 0 0 0)
  have p9 : pfI s8 (some x) 1 2 s = some s9 := pf_o (hput_same _ _ _)
  let s10 : Hp := hput s9 x (evx n k s t 0 (some σ.1) (some (Prod.fst s2)) (some (Prod.fst s4)) 0 0 0 0 0)
  have p10 : pfI s9 (some x) 1 3 t = some s10 := pf_o (hput_same _ _ _)
  let s11 : Hp := hput s10 x (evx n k s t pv (some σ.1) (some (Prod.fst s2)) (some (Prod.fst s4)) 0 0 0 0 0)
  have p11 : pfJ s10 (some x) 1 4 pv = some s11 := pf_o (hput_same _ _ _)
  have e11 : s11 = hput s5 x (evx n k s t pv (some σ.1) (some (Prod.fst s2)) (some (Prod.fst s4)) 0 0 0 0 0) := by
    show hput (hput (hput (hput (hput (hput s5 x _) x _) x _) x _) x _) x _ = _
    rw [hput_hput, hput_hput, hput_hput, hput_hput, hput_hput]
  have up : ∀ a, a ≠ x → s11.2.2 a = s5.2.2 a := fun a ha => by
    rw [e11]
    exact hput_ne ha
  have q4 : ∀ a, a ≠ x → a < σ.1 + 4 → s11.2.2 a = s3.2.2 a := fun a ha hl => ((up a ha).trans (k5 a hl)).trans (hput_ne ha)
  have q2 : ∀ a, a ≠ x → a < σ.1 + 2 → s11.2.2 a = s1.2.2 a := fun a ha hl => ((q4 a ha (by omega)).trans (k3 a hl)).trans (hput_ne ha)
  have e2 : Prod.fst s2 = σ.1 + 2 := n2
  have e4 : Prod.fst s4 = σ.1 + 4 := n4
  refine ⟨s11, cV_of ((eEv_init _ _ _ _ _ _ σ).trans ?_), ?_, ⟨(q2 _ (by omega) (by omega)).trans o1, (q2 _ (by omega) (by omega)).trans a1⟩, ⟨(q4 _ (by omega) (by omega)).trans o3, (q4 _ (by omega) (by omega)).trans a3⟩, ⟨(up _ (by omega)).trans o5, (up _ (by omega)).trans a5⟩, ?_, ?_, ?_, fun a ha hl => ?_⟩
  · simp only [r1, i1, p2, r3, i3, p4, r5, i5, p6, p7, p8, p9, p10, p11, Option.bind_some]
  · rw [e11, hput_same, e2, e4]
  · rw [e11]
    exact n5
  · rw [e11]
    show s5.2.1 = _
    have : s4.2.1 = s3.2.1 := rfl
    have : s2.2.1 = s1.2.1 := rfl
    omega
  · rw [e11]
    exact F5.put (by omega)
  · exact (q2 a ha (by omega)).trans (k1 a hl)
/-- an event that is being made: its object at x, its three states with their arrays -/
def EvW (σ : Hp) (ea : Nat → Nat) (x b1 a1 b2 a2 b3 a3 : Nat) (e k s t : Nat) (pv : Int64) (v tm : Int32) (q : Int64 × Int64 × (Nat → Nat)) (gd : Int32) (g fF : Nat → Nat) : Prop :=
  σ.2.2 x = some (evx (nI e) (nI k) (nI s) (nI t) pv (some b1) (some b2) (some b3) v tm q.1 q.2.1 gd) ∧ (σ.2.2 b1 = some (.inr (6, [sA (some a1)])) ∧ ArE σ ea a1 g) ∧ (σ.2.2 b2 = some (.inr (6, [sA (some a2)])) ∧ ArE σ ea a2 q.2.2) ∧ (σ.2.2 b3 = some (.inr (6, [sA (some a3)])) ∧ ArE σ ea a3 fF) ∧ a1 ≠ a2 ∧ a1 ≠ a3 ∧ a2 ≠ a3
theorem evc_Ex (E : Ed) (e k s t : Nat) (v tm gd : Int32) (pv au ch : Int64) (fF fA : Nat → Nat) (b1 b2 b3 : Nat) : evc (Ex E e k s t v tm gd pv au ch fF fA) e b1 b2 b3 = evx (nI e) (nI k) (nI s) (nI t) pv (some b1) (some b2) (some b3) v tm au ch gd := by
  unfold evc evx Ex eK eS eT eV eM eG eP eU eC
  simp only [va_up_self]
theorem evc_sam {E E' : Ed} {N n : Nat} (h : Sam E E' N) (hn : n ≤ N) (b1 b2 b3 : Nat) : evc E' n b1 b2 b3 = evc E n b1 b2 b3 := by
  obtain ⟨⟨a1, a2, a3, a4, a5⟩, ⟨a6, a7, a8, a9⟩, -⟩ := h n hn
  unfold evc
  rw [a1, a2, a3, a4, a5, a6, a7, a8, a9]
theorem EvA.sam {σ : Hp} {ea : Nat → Nat} {E E' : Ed} {N : Nat} (h : EvA σ ea E N) (hs : Sam E E' N) : EvA σ ea E' N := by
  intro n h1 h2
  obtain ⟨a, b, c, d⟩ := h n h1 h2
  refine ⟨a, b, c, ?_⟩
  rw [evc_sam hs h2]
  exact d
section EVW
variable {σ : Hp} {ea : Nat → Nat} {x b1 a1 b2 a2 b3 a3 e k s t N : Nat} {pv : Int64} {v tm : Int32} {q : Int64 × Int64 × (Nat → Nat)} {gd : Int32} {g fF : Nat → Nat} {E : Ed}
theorem EvW.evo (h : EvW σ ea x b1 a1 b2 a2 b3 a3 e k s t pv v tm q gd g fF) (E : Ed) (fF' fA' : Nat → Nat) : EvO σ x (Ex E e k s t v tm gd pv q.1 q.2.1 fF' fA') e := ⟨b1, b2, b3, by rw [evc_Ex]; exact h.1⟩
theorem EvW.st1 (h : EvW σ ea x b1 a1 b2 a2 b3 a3 e k s t pv v tm q gd g fF) : StR σ ea b1 g := ⟨a1, h.2.1.1, h.2.1.2⟩
theorem EvW.st2 (h : EvW σ ea x b1 a1 b2 a2 b3 a3 e k s t pv v tm q gd g fF) : StR σ ea b2 q.2.2 := ⟨a2, h.2.2.1.1, h.2.2.1.2⟩
theorem EvW.f1 (h : EvW σ ea x b1 a1 b2 a2 b3 a3 e k s t pv v tm q gd g fF) : gfI σ (some x) 1 1 = some (nI k) := gfI_o h.1 rfl
theorem EvW.f2 (h : EvW σ ea x b1 a1 b2 a2 b3 a3 e k s t pv v tm q gd g fF) : gfI σ (some x) 1 2 = some (nI s) := gfI_o h.1 rfl
theorem EvW.f3 (h : EvW σ ea x b1 a1 b2 a2 b3 a3 e k s t pv v tm q gd g fF) : gfI σ (some x) 1 3 = some (nI t) := gfI_o h.1 rfl
theorem EvW.f0 (h : EvW σ ea x b1 a1 b2 a2 b3 a3 e k s t pv v tm q gd g fF) : gfI σ (some x) 1 0 = some (nI e) := gfI_o h.1 rfl
theorem EvW.f4 (h : EvW σ ea x b1 a1 b2 a2 b3 a3 e k s t pv v tm q gd g fF) : gfJ σ (some x) 1 4 = some pv := gfJ_o h.1 rfl
theorem EvW.f5 (h : EvW σ ea x b1 a1 b2 a2 b3 a3 e k s t pv v tm q gd g fF) : gfA σ (some x) 1 5 = some (some b1) := gfA_o h.1 rfl
theorem EvW.f6 (h : EvW σ ea x b1 a1 b2 a2 b3 a3 e k s t pv v tm q gd g fF) : gfA σ (some x) 1 6 = some (some b2) := gfA_o h.1 rfl
theorem EvW.f7 (h : EvW σ ea x b1 a1 b2 a2 b3 a3 e k s t pv v tm q gd g fF) : gfA σ (some x) 1 7 = some (some b3) := gfA_o h.1 rfl
theorem EvW.f10 (h : EvW σ ea x b1 a1 b2 a2 b3 a3 e k s t pv v tm q gd g fF) : gfJ σ (some x) 1 10 = some q.1 := gfJ_o h.1 rfl
theorem EvW.f11 (h : EvW σ ea x b1 a1 b2 a2 b3 a3 e k s t pv v tm q gd g fF) : gfJ σ (some x) 1 11 = some q.2.1 := gfJ_o h.1 rfl
theorem EvW.rc (h : EvW σ ea x b1 a1 b2 a2 b3 a3 e k s t pv v tm q gd g fF) (l : List sv) : rcv σ (sA (some x) :: l) 1 = some x := rcv_o h.1
/-- the event's own cell is written -/
theorem EvW.put (h : EvW σ ea x b1 a1 b2 a2 b3 a3 e k s t pv v tm q gd g fF) (v' tm' : Int32) (au ch : Int64) (gd' : Int32) : EvW (hput σ x (evx (nI e) (nI k) (nI s) (nI t) pv (some b1) (some b2) (some b3) v' tm' au ch gd')) ea x b1 a1 b2 a2 b3 a3 e k s t pv v' tm' (au, ch, q.2.2) gd' g fF := by
  obtain ⟨h0, ⟨h1, f1, g1, g1'⟩, ⟨h2, f2, g2, g2'⟩, ⟨h3, f3, g3, g3'⟩, d⟩ := h
  have ne6 : ∀ {n k s t : Int32} {pv : Int64} {b1 b2 b3 : Option Nat} {v tm : Int32} {au ch : Int64} {gd : Int32} {fs : List sv}, (.inr (6, fs) : Cl) ≠ evx n k s t pv b1 b2 b3 v tm au ch gd := fun e => by
    injection e with e
    injection e with e1 e2
    cases e1
  have neA : ∀ {n k s t : Int32} {pv : Int64} {b1 b2 b3 : Option Nat} {v tm : Int32} {au ch : Int64} {gd : Int32} {z : Nat × Nat × Ac}, (.inl z : Cl) ≠ evx n k s t pv b1 b2 b3 v tm au ch gd := fun e => by cases e
  exact ⟨hput_same _ _ _, ⟨kp h0 h1 ne6, f1, kp h0 g1 neA, g1'⟩, ⟨kp h0 h2 ne6, f2, kp h0 g2 neA, g2'⟩, ⟨kp h0 h3 ne6, f3, kp h0 g3 neA, g3'⟩, d⟩
theorem EvA.frx {X : Nat → Prop} {σ1 : Hp} (h : EvA σ ea E N) (f : FrX X σ σ1) (hX : ∀ n, 1 ≤ n → n ≤ N → ¬ X (ea n)) : EvA σ1 ea E N := by
  intro n h1 h2
  obtain ⟨a, b, c, d⟩ := h n h1 h2
  exact ⟨a, b, c, (f.2.2 _ (hX n h1 h2)).trans d⟩
theorem lv_Ex {E E' : Ed} {N : Nat} {g : Nat → Nat} (hs : Sam E E' N) (hg : gle g N) (u : Nat) : lv E' g u = lv E g u := by
  unfold lv
  have h0 := hs (g 0) (hg 0 (by decide))
  have h1 := hs (g 1) (hg 1 (by decide))
  rw [h0.1.2.1, h1.1.2.2.2.1]
theorem lvw_Ex {E E' : Ed} {N : Nat} {g : Nat → Nat} (hs : Sam E E' N) (hg : gle g N) (t : Nat) (y : Int32) : ∀ (d i : Nat) (m : Int32), lvw E' g t y i d m = lvw E g t y i d m := by
  intro d
  induction d with
  | zero => intro i m; rfl
  | succ d ih =>
    intro i m
    show lvw E' g t y (i + 1) d (m + ((if ¬ nI i = nI t then lv E' g i else y) <<< (((2 : Int32) * nI i) &&& 31))) = lvw E g t y (i + 1) d (m + ((if ¬ nI i = nI t then lv E g i else y) <<< (((2 : Int32) * nI i) &&& 31)))
    rw [lv_Ex hs hg, ih]
theorem Ev_takeValue (h : EvW σ ea x b1 a1 b2 a2 b3 a3 e k s t pv 0 tm q gd g fF) (hk : k ≤ 7) (hE : EvA σ ea E N) (hg : gle g N) (y : Int32) : ∃ σ1, cV rF nEv_takeValue [sA (some x), sI y] σ = some σ1 ∧ EvW σ1 ea x b1 a1 b2 a2 b3 a3 e k s t pv (vle E g k t y) tm q gd g fF ∧ FrX (fun a => a = x) σ σ1 := by
  have k5 : (nI k = (5 : Int32)) ↔ k = 5 := nI_eq (a := k) (b := 5) (by omega) (by decide)
  have k6 : (nI k = (6 : Int32)) ↔ k = 6 := nI_eq (a := k) (b := 6) (by omega) (by decide)
  have k7 : (nI k = (7 : Int32)) ↔ k = 7 := nI_eq (a := k) (b := 7) (by omega) (by decide)
  have put1 : ∀ z : Int32, pfI σ (some x) 1 8 z = some (hput σ x (evx (nI e) (nI k) (nI s) (nI t) pv (some b1) (some b2) (some b3) z tm q.1 q.2.1 gd)) := fun z => pf_o h.1
  have hu : vle E g k t y = if k = 5 then lvw E g t y 0 6 0 else if k = 6 ∨ k = 7 then y else 0 := rfl
  by_cases c5 : k = 5
  · rw [hu, if_pos c5]
    refine ⟨_, cV_of ((eEv_takeValue _ _ σ).trans ?_), h.put (lvw E g t y 0 6 0) tm q.1 q.2.1 gd, FrX.put rfl⟩
    have n5 : ¬ ¬ nI k = (5 : Int32) := fun z => z (k5.mpr c5)
    simp only [h.f1, Option.bind_some]
    rw [if_neg n5]
    simp only [h.f5, h.f3, h.st1.rc, St_levelsWith h.st1 hE hg t y, put1, Option.bind_some, eEv_takeValue_50]
  · have n5 : ¬ nI k = (5 : Int32) := fun z => c5 (k5.mp z)
    rw [hu, if_neg c5]
    by_cases c67 : k = 6 ∨ k = 7
    · rw [if_pos c67]
      refine ⟨_, cV_of ((eEv_takeValue _ _ σ).trans ?_), h.put y tm q.1 q.2.1 gd, FrX.put rfl⟩
      simp only [h.f1, Option.bind_some]
      rw [if_pos n5]
      by_cases c6 : k = 6
      · rw [if_pos (k6.mpr c6), eEv_takeValue_45]
        simp only [put1, Option.bind_some, eEv_takeValue_50]
      · have c7 : k = 7 := by omega
        have n7 : ¬ ¬ nI k = (7 : Int32) := fun z => z (k7.mpr c7)
        rw [if_neg (fun z => c6 (k6.mp z)), if_neg n7, eEv_takeValue_45]
        simp only [put1, Option.bind_some, eEv_takeValue_50]
    · rw [if_neg c67]
      refine ⟨σ, cV_of ((eEv_takeValue _ _ σ).trans ?_), h, FrX.rf _ _⟩
      have n6 : ¬ nI k = (6 : Int32) := fun z => c67 (Or.inl (k6.mp z))
      have n7 : ¬ nI k = (7 : Int32) := fun z => c67 (Or.inr (k7.mp z))
      simp only [h.f1, Option.bind_some]
      rw [if_pos n5, if_neg n6, if_pos n7, eEv_takeValue_50]
theorem Ev_takeAuth (h : EvW σ ea x b1 a1 b2 a2 b3 a3 e k s t pv v tm q gd g fF) (hE : EvA σ ea E N) (hg : gle g N) (hne : ∀ n, 1 ≤ n → n ≤ N → ea n ≠ x) {j : Nat} (hj : j < 9) : ∃ σ1, cV rF nEv_takeAuth [sA (some x), sI (nI j)] σ = some σ1 ∧ EvW σ1 ea x b1 a1 b2 a2 b3 a3 e k s t pv v tm (tka E g j q) gd g fF ∧ FrX (fun a => a = x ∨ a = a2) σ σ1 := by
  have r1 : gfA σ (some b1) 6 0 = some (some a1) := gfA_o h.2.1.1 rfl
  have r2 : alA σ (some a1) (nI j) = some (er ea (g j)) := h.2.1.2.at hj
  have hu : tka E g j q = if g j = 0 then q else (q.1 ||| bitN (g j), q.2.1 ||| (bitN (g j) ||| eC E (g j)), va_up q.2.2 j (g j)) := rfl
  by_cases c : g j = 0
  · rw [hu, if_pos c]
    refine ⟨σ, cV_of ((eEv_takeAuth _ _ σ).trans ?_), h, FrX.rf _ _⟩
    simp only [h.f5, r1, r2, Option.bind_some, c, er_0, if_true, eEv_takeAuth_61]
  · have l1 : 1 ≤ g j := by omega
    have l2 := hg j hj
    have nn : ¬ (some (ea (g j)) = none) := fun z => by cases z
    have ev := hE (g j) l1 l2
    obtain ⟨h0, ⟨h1, A1⟩, ⟨h2, A2⟩, ⟨h3, A3⟩, d12, d13, d23⟩ := h
    obtain ⟨cc, w1, A2'⟩ := A2.put hj (x := some (ea (g j))) (n := g j) (er_n c).symm ev.ok
    have r3 : gfA σ (some b2) 6 0 = some (some a2) := gfA_o h2 rfl
    obtain ⟨f2, hf2, -⟩ := A2
    let σ1 : Hp := hput σ a2 (.inl cc)
    have kk : ∀ {y : Nat} {fs : Nat × List sv}, σ.2.2 y = some (.inr fs) → σ1.2.2 y = some (.inr fs) := fun hy => kp hf2 hy (fun z => by cases z)
    have W1 : EvW σ1 ea x b1 a1 b2 a2 b3 a3 e k s t pv v tm (q.1, q.2.1, va_up q.2.2 j (g j)) gd g fF := ⟨kk h0, ⟨kk h1, A1.keep d12⟩, ⟨kk h2, A2'⟩, ⟨kk h3, A3.keep (fun z => d23 z.symm)⟩, d12, d13, d23⟩
    have E1 : EvA σ1 ea E N := hE.arr hf2
    have ev1 := E1 (g j) l1 l2
    let σ2 : Hp := hput σ1 x (evx (nI e) (nI k) (nI s) (nI t) pv (some b1) (some b2) (some b3) v tm (q.1 ||| bitN (g j)) q.2.1 gd)
    have p2 : pfJ σ1 (some x) 1 10 (q.1 ||| bitN (g j)) = some σ2 := pf_o W1.1
    have W2 := W1.put v tm (q.1 ||| bitN (g j)) q.2.1 gd
    have E2 : EvA σ2 ea E N := E1.frx (X := fun a => a = x) (FrX.put rfl) hne
    have ev2 := E2 (g j) l1 l2
    let σ3 : Hp := hput σ2 x (evx (nI e) (nI k) (nI s) (nI t) pv (some b1) (some b2) (some b3) v tm (q.1 ||| bitN (g j)) (q.2.1 ||| (bitN (g j) ||| eC E (g j))) gd)
    have p3 : pfJ σ2 (some x) 1 11 (q.2.1 ||| (bitN (g j) ||| eC E (g j))) = some σ3 := pf_o W2.1
    have W3 := W2.put v tm (q.1 ||| bitN (g j)) (q.2.1 ||| (bitN (g j) ||| eC E (g j))) gd
    have bt : ∀ s : Hp, cJ rF nRm_bit [sI (nI (g j))] s = some (bitN (g j), s) := fun s => Rm_bit (g j) s
    have g5 : gfA σ (some x) 1 5 = some (some b1) := gfA_o h0 rfl
    have g6 : gfA σ (some x) 1 6 = some (some b2) := gfA_o h0 rfl
    have g10 : gfJ σ1 (some x) 1 10 = some q.1 := gfJ_o W1.1 rfl
    have g11 : gfJ σ2 (some x) 1 11 = some q.2.1 := gfJ_o W2.1 rfl
    rw [hu, if_neg c]
    refine ⟨σ3, cV_of ((eEv_takeAuth _ _ σ).trans ?_), W3, ((FrX.put (Or.inr rfl)).tr (FrX.put (Or.inl rfl))).tr (FrX.put (Or.inl rfl))⟩
    simp only [g5, r1, r2, Option.bind_some, er_n c]
    rw [if_neg nn]
    simp only [g6, r3, w1, Option.bind_some]
    simp only [show gfJ (hput σ a2 (.inl cc)) (some x) 1 10 = some q.1 from g10, show gfI (hput σ a2 (.inl cc)) (some (ea (g j))) 1 0 = some (nI (g j)) from ev1.num, bt, Option.bind_some, show pfJ (hput σ a2 (.inl cc)) (some x) 1 10 (q.1 ||| bitN (g j)) = some σ2 from p2, g11, ev2.num, ev2.ch, p3, eEv_takeAuth_61]
end EVW
