/-! act and branch. -/
theorem i32_6 (x : Int32) : (6 : Int32) ≤ x ↔ 5 < x := by
  rw [Int32.le_iff_toInt_le, Int32.lt_iff_toInt_lt]
  have a : (6 : Int32).toInt = 6 := rfl
  have b : (5 : Int32).toInt = 5 := rfl
  omega
theorem i32_8 (x : Int32) : nI 8 ≤ x ↔ 7 < x := by
  rw [Int32.le_iff_toInt_le, Int32.lt_iff_toInt_lt]
  have a : (nI 8).toInt = 8 := rfl
  have b : (7 : Int32).toInt = 7 := rfl
  omega
theorem i32_01 (x : Int32) : (x = 0 ∨ x = 1) ↔ ¬ (x < 0 ∨ 1 < x) := by
  rw [Int32.lt_iff_toInt_lt, Int32.lt_iff_toInt_lt, ← Int32.toInt_inj, ← Int32.toInt_inj]
  have a : (0 : Int32).toInt = 0 := rfl
  have b : (1 : Int32).toInt = 1 := rfl
  omega
theorem i32_1 (x : Int32) : x < 1 ↔ (x < 0 ∨ x = 0) := by
  rw [Int32.lt_iff_toInt_lt, Int32.lt_iff_toInt_lt, ← Int32.toInt_inj]
  have a : (0 : Int32).toInt = 0 := rfl
  have b : (1 : Int32).toInt = 1 := rfl
  omega
theorem fit_iff (u k t v : Int32) : fit u k t v = true ↔ (¬ u < 0 ∧ ¬ 5 < u) ∧ (¬ t < 0 ∧ ¬ 5 < t) ∧ (¬ k < 1 ∧ ¬ 7 < k) ∧ (k = 5 → ¬ v < 0 ∧ ¬ 3 < v) ∧ (k = 6 → ¬ v < 0 ∧ ¬ 1 < v) := by
  unfold fit
  by_cases a1 : u < 0
  · simp [a1]
  · by_cases a2 : 5 < u
    · simp [a2]
    · by_cases a3 : t < 0
      · simp [a3]
      · by_cases a4 : 5 < t
        · simp [a4]
        · by_cases a5 : k < 1
          · simp [a5]
          · by_cases a6 : 7 < k
            · simp [a6]
            · by_cases a7 : k = 5
              · subst a7
                by_cases a8 : v < 0
                · simp [a8]
                · by_cases a9 : 3 < v
                  · simp [a9]
                  · simp [a1, a2, a3, a4, a8, a9]
              · by_cases b7 : k = 6
                · subst b7
                  by_cases a8 : v < 0
                  · simp [a8]
                  · by_cases a9 : 1 < v
                    · simp [a9]
                    · simp [a1, a2, a3, a4, a8, a9]
                · simp [a1, a2, a3, a4, a5, a6, a7, b7]
theorem fit_in {u k t v : Int32} (h : fit u k t v = true) : ∃ u' k' t', u' < 6 ∧ (1 ≤ k' ∧ k' ≤ 7) ∧ t' < 6 ∧ u = nI u' ∧ k = nI k' ∧ t = nI t' := by
  obtain ⟨⟨a1, a2⟩, ⟨a3, a4⟩, ⟨a5, a6⟩, -, -⟩ := (fit_iff _ _ _ _).mp h
  obtain ⟨u', h1, rfl⟩ := in_c (c := 6) (by decide) a1 (fun z => a2 ((i32_6 u).mp z))
  obtain ⟨t', h2, rfl⟩ := in_c (c := 6) (by decide) a3 (fun z => a4 ((i32_6 t).mp z))
  obtain ⟨k', h3, rfl⟩ := in_c (c := 8) (by decide) (fun z => a5 ((i32_1 k).mpr (Or.inl z))) (fun z => a6 ((i32_8 k).mp z))
  refine ⟨u', k', t', h1, ⟨?_, by omega⟩, h2, rfl, rfl, rfl⟩
  by_cases c : k' = 0
  · subst c
    exact absurd ((i32_1 (nI 0)).mpr (Or.inr rfl)) a5
  · omega
section ACT
variable {σ : Hp} {o b sL rm sr wi wa c N : Nat} {xs : Nat → Int32} {se ma : Nat → Nat} {P : Pa} {E : Ed} {Q : Nat → Sv} {M : Nat → Ms} {nw : Int32}
theorem us_f (x : Int32) (σ : Hp) : cI rF nRm_isUser [sI x] σ = some (if ¬ x < 0 ∧ ¬ 5 < x then 1 else 0, σ) := by
  rw [Rm_isUser]
  have e := i32_6 x
  by_cases a : x < 0
  · simp [a]
  · by_cases b : 5 < x
    · simp [a, b, e.mpr b]
    · have n6 : ¬ (6 : Int32) ≤ x := fun z => b (e.mp z)
      rw [if_neg a, if_neg n6, if_pos ⟨a, b⟩]
theorem Rm_canBeMade {hi ev re vw : Nat} {ea : Nat → Nat} (r : RmC σ rm hi re sr wi vw nw) (hH : HiR σ hi ev ea N) (hN : N ≤ 40) (u k t v : Int32) : cI rF nRm_canBeMade [sA (some rm), sI u, sI k, sI t, sI v] σ = some (if fit u k t v = true ∧ N < 40 then 1 else 0, σ) := by
  refine cI_of ((eRm_canBeMade _ _ _ _ _ σ).trans ?_)
  have fi := fit_iff u k t v
  have no : ∀ {a : Prop}, ¬ a → (fit u k t v = true → a) → (some (some (sI (0 : Int32)), σ) : Option Rs) = some (some (sI (if fit u k t v = true ∧ N < 40 then 1 else 0)), σ) := fun ha h => by
    rw [if_neg (fun z => ha (h z.1))]
  simp only [us_f, Option.bind_some, eRm_canBeMade_25, eRm_canBeMade_43, rz_0]
  by_cases a1 : ¬ u < 0 ∧ ¬ 5 < u
  · by_cases a2 : ¬ t < 0 ∧ ¬ 5 < t
    · rw [if_pos a1, if_neg i10, if_pos a2, if_neg i10]
      by_cases a3 : k < 1
      · rw [if_pos a3]
        exact no (a := ¬ k < 1) (fun z => z a3) (fun z => (fi.mp z).2.2.1.1)
      · rw [if_neg a3]
        by_cases a4 : 7 < k
        · rw [if_neg (Int32.not_le.mpr a4)]
          exact no (a := ¬ 7 < k) (fun z => z a4) (fun z => (fi.mp z).2.2.1.2)
        · rw [if_pos (Int32.not_lt.mp a4)]
          -- behind the kind
          have e64 : fRm_canBeMade_64 (some rm) σ = some (some (sI (if N < 40 then 1 else 0)), σ) := by
            rw [eRm_canBeMade_64]
            simp only [r.f0, hH.made, Option.bind_some, eRm_canBeMade_81]
            by_cases n : N < 40
            · have n40 : ¬ (40 : Int32) ≤ nI N := nIng (c := 40) (by decide) n
              rw [if_neg n40, if_pos n]
              exact rz_1 σ
            · have : N = 40 := by omega
              subst this
              rw [if_pos (show (40 : Int32) ≤ nI 40 by decide), if_neg n]
              exact rz_0 σ
          have e45 : (k = 5 → ¬ v < 0 ∧ ¬ 3 < v) → fRm_canBeMade_45 (some rm) k v σ = some (some (sI (if fit u k t v = true ∧ N < 40 then 1 else 0)), σ) := by
            intro h5
            rw [eRm_canBeMade_45]
            by_cases k6 : k = 6
            · rw [if_neg (fun z => z k6)]
              by_cases hv : v = 0 ∨ v = 1
              · have hv' := (i32_01 v).mp hv
                have hf : fit u k t v = true := fi.mpr ⟨a1, a2, ⟨a3, a4⟩, h5, fun _ => ⟨fun z => hv' (Or.inl z), fun z => hv' (Or.inr z)⟩⟩
                have e : (if fit u k t v = true ∧ N < 40 then (1 : Int32) else 0) = if N < 40 then 1 else 0 := by simp [hf]
                rw [e, e64]
                rcases hv with z | z
                · rw [if_pos z]
                · by_cases z0 : v = 0
                  · rw [if_pos z0]
                  · rw [if_neg z0, if_pos z]
              · have v0 : ¬ v = 0 := fun z => hv (Or.inl z)
                have v1 : ¬ v = 1 := fun z => hv (Or.inr z)
                rw [if_neg v0, if_neg v1, rz_0]
                refine no (a := v = 0 ∨ v = 1) hv (fun z => (i32_01 v).mpr (fun y => ?_))
                obtain ⟨w1, w2⟩ := (fi.mp z).2.2.2.2 k6
                rcases y with y | y
                · exact w1 y
                · exact w2 y
            · have hf : fit u k t v = true := fi.mpr ⟨a1, a2, ⟨a3, a4⟩, h5, fun z => absurd z k6⟩
              have e : (if fit u k t v = true ∧ N < 40 then (1 : Int32) else 0) = if N < 40 then 1 else 0 := by simp [hf]
              rw [if_pos k6, e, e64]
          by_cases k5 : k = 5
          · rw [if_neg (fun z => z k5)]
            by_cases v0 : v < 0
            · rw [if_pos v0]
              exact no (a := ¬ v < 0) (fun z => z v0) (fun z => ((fi.mp z).2.2.2.1 k5).1)
            · rw [if_neg v0]
              by_cases v3 : 3 < v
              · rw [if_neg (Int32.not_le.mpr v3)]
                exact no (a := ¬ 3 < v) (fun z => z v3) (fun z => ((fi.mp z).2.2.2.1 k5).2)
              · rw [if_pos (Int32.not_lt.mp v3)]
                exact e45 (fun _ => ⟨v0, v3⟩)
          · rw [if_pos k5]
            exact e45 (fun z => absurd z k5)
    · rw [if_pos a1, if_neg i10, if_neg a2, if_pos rfl]
      exact no a2 (fun z => (fi.mp z).2.1)
  · rw [if_neg a1, if_pos rfl]
    exact no a1 (fun z => (fi.mp z).1)
/-- the class: a new event's object, the state before it, its value -/
theorem Rm_make {S : Int64} (hC : ClR σ o b sL xs rm sr wi wa se ma P E N Q M c nw) (hI : InV E N) (hN : N < 40) (hS : SrcOk E N S) (k u t : Nat) (k7 : k ≤ 7) (y : Int32) : ∃ σb σc σd ea g, cV rF nEv_init [sA (some σ.1), sI (nI (N + 1)), sI (nI k), sI (nI u), sI (nI t), sJ S] (mkO σ 1) = some σb ∧ (∀ l, rcv (mkO σ 1) (sA (some σ.1) :: l) 1 = some σ.1) ∧ RmC σb rm (pd P 0) (pd P 2) sr wi (pd P 10) nw ∧ (gfJ σb (some σ.1) 1 4 = some S ∧ gfA σb (some σ.1) 1 5 = some (some (σ.1 + 1))) ∧ (∀ l, rcv σb (sA (some (pd P 2)) :: l) 4 = some (pd P 2)) ∧ cV rF nRe_resolve [sA (some (pd P 2)), sJ S, sA (some (σ.1 + 1))] σb = some σc ∧ (∀ l, rcv σc (sA (some σ.1) :: l) 1 = some σ.1) ∧ cV rF nEv_takeValue [sA (some σ.1), sI y] σc = some σd ∧ Mst σ P E N ea ∧ Mid σ σd o P E N ea k u t S (vle E g k t y) 0 (0, 0, fun _ => 0) 0 g (fun _ => 0) ∧ Res E N S g := by
  have hC' := hC
  obtain ⟨r1, -, -, h4, h5, h6, h7, h8, -, o6, o7, o8⟩ := hC'
  obtain ⟨σb, ea, e1, rc1, ms, mb⟩ := mk_ev hC hN k u t S
  obtain ⟨σc, g, e2, mc, gg, rr⟩ := mb.res ms h8 h6 o8 hI hS
  obtain ⟨σd, e3, w3, f3⟩ := Ev_takeValue mc.1 k7 mc.ev gg y
  have md := mc.step ms h8 h6 w3 (f3.mono (fun a ha => Or.inl ha))
  obtain ⟨ag, gA, gT, gV, ml, pl, v1, -⟩ := mb.2.1
  refine ⟨σb, σc, σd, ea, g, e1, rc1, mb.2.2.2.1 2 (by decide) _ _ rfl r1, ⟨mb.1.f4, mb.1.f5⟩, fun l => ?_, e2, fun l => mc.1.rc l, e3, ms, md, rr⟩
  have := v1.rc l
  rw [show pd (Pn P N σ.1 ea (dN P σ.1)) 2 = pd P 2 from dN_n (P := P) (x := σ.1) (i := 2) (by decide) (by decide)] at this
  exact this
/-- the reference: the state before it, the prepared rows -/
theorem Mo_make {σ : Hp} {I : Nat → Nat → Int32} {L : Nat → Nat → Int64} {S : Int64} {g : Nat → Nat} {k u t : Nat} (h : MoA σ o E N Q M c nw I L) (hI : InV E N) (hN : N < 40) (hS : SrcOk E N S) (hR : Res E N S g) (hk1 : 1 ≤ k) (hk : k ≤ 7) (hu : u < 6) (ht : t < 6) (y : Int32) : ∃ σb σc Ic Lc, cV rF nMo_resolve [sA (some o), sJ S] σ = some σb ∧ (∀ l, rcv σb (sA (some o) :: l) 8 = some o) ∧ cV rF nMo_prepare [sA (some o), sI (nI u), sI (nI k), sI (nI t), sI y, sJ S] σb = some σc ∧ MoR σc o (nw, nI N, nI c) Ic Lc ∧ Prp Ic Lc E N Q M c (EN E N k u t (vle E g k t y) (nw + (Q (u % 3)).2.2.2) S g) g ∧ FrM o σ σc := by
  obtain ⟨kg, g0⟩ := hR.k hI hS
  obtain ⟨σb, Ib, e1, v1, j1, f1⟩ := h.res hI hS hR
  obtain ⟨b1, b2, b3, b4, b5, b6⟩ := v1
  have hp : u % 3 < 3 := Nat.mod_lt _ (by decide)
  obtain ⟨σc, Ic, Lc, e2, v2, i2, i2', l2, ⟨c2, c3, c4, c5, c6⟩, ⟨c7, c8, c9⟩, f2⟩ := Mo_prepare hN rfl kg.gle g0 hI.2.2.1.2.1 hu hk1 hk ht b1 b2 j1 y S
  have tk := tkA_tk (E := E) kg.gle (show N ≤ 40 by omega) hu ht hk1 hk
  rw [aut_eq kg.gle (show N ≤ 40 by omega) tk] at c8
  rw [chn_eq kg.gle (show N ≤ 40 by omega) tk] at c9
  have hsam : Sam E (EN E N k u t (vle E g k t y) (nw + (Q (u % 3)).2.2.2) S g) N := Ex_sam
  refine ⟨σb, σc, Ic, Lc, e1, fun l => b1.rc l, e2, v2, ⟨fun n n1 n2 => ?_, ⟨fun n hn => ?_, ?_⟩, fun n n1 n2 => ?_, fun r hr => ?_, ⟨b6.1, fun j hj => ?_⟩, fun j hj => ?_⟩, f1.tr f2⟩
  · by_cases cn : n = N + 1
    · subst cn
      have x1 : eK (EN E N k u t (vle E g k t y) (nw + (Q (u % 3)).2.2.2) S g) (N + 1) = k := va_up_self _ _ _
      have x2 : eS (EN E N k u t (vle E g k t y) (nw + (Q (u % 3)).2.2.2) S g) (N + 1) = u := va_up_self _ _ _
      have x3 : eT (EN E N k u t (vle E g k t y) (nw + (Q (u % 3)).2.2.2) S g) (N + 1) = t := va_up_self _ _ _
      have x4 : eV (EN E N k u t (vle E g k t y) (nw + (Q (u % 3)).2.2.2) S g) (N + 1) = vle E g k t y := va_up_self _ _ _
      have x5 : eM (EN E N k u t (vle E g k t y) (nw + (Q (u % 3)).2.2.2) S g) (N + 1) = nw + (Q (u % 3)).2.2.2 := va_up_self _ _ _
      have x6 : eP (EN E N k u t (vle E g k t y) (nw + (Q (u % 3)).2.2.2) S g) (N + 1) = S := va_up_self _ _ _
      have x7 : eU (EN E N k u t (vle E g k t y) (nw + (Q (u % 3)).2.2.2) S g) (N + 1) = (tkA E g u k t).1 := va_up_self _ _ _
      have x8 : eC (EN E N k u t (vle E g k t y) (nw + (Q (u % 3)).2.2.2) S g) (N + 1) = (tkA E g u k t).2.1 := va_up_self _ _ _
      rw [x1, x2, x3, x4, x5, x6, x7, x8, c2, c3, c4, c5, c6, c7, c8, c9, (b5 _ hp).1]
      exact ⟨rfl, rfl, rfl, rfl, rfl, rfl, rfl, rfl⟩
    · obtain ⟨⟨s1, s2, s3, s4, s5⟩, ⟨s6, s7, s8, s9⟩, -⟩ := hsam n (by omega)
      rw [s1, s2, s3, s4, s5, s7, s8, s9, i2 2 n cn, i2 3 n cn, i2 4 n cn, i2 5 n cn, i2 6 n cn, l2 7 n cn, l2 8 n cn, l2 9 n cn]
      exact b2 n n1 (by omega)
  · rw [i2' 11 (Or.inr (by decide))]
    exact b3.1 n hn
  · rw [l2 9 0 (by omega)]
    exact b3.2
  · rw [i2' 10 (Or.inr (by decide))]
    exact b4 n n1 n2
  · rw [i2' 1 (Or.inl (by decide)), i2' 17 (Or.inr (by decide))]
    exact b5 r hr
  · unfold Row
    rw [i2' 18 (Or.inr (by decide)), i2' 19 (Or.inr (by decide)), i2' 20 (Or.inr (by decide)), i2' 21 (Or.inr (by decide)), i2' 22 (Or.inr (by decide))]
    exact b6.2 j hj
  · rw [i2' 12 (Or.inr (by decide))]
    exact j1 j hj
end ACT
