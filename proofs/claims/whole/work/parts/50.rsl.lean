/-! The resolution: Resolver.resolve. -/
section RSL
variable {σ : Hp} {P : Pa} {E : Ed} {N : Nat} {ag ml pl : Nat → Int32} {gA gT gR : Nat → Nat}
def hl1 (E : Ed) (N : Nat) : Nat → Int64 → (Nat → Nat) × (Nat → Nat) → (Nat → Nat) × (Nat → Nat)
  | 0, _, q => q
  | d + 1, m, q => if lg_cmp m 0 = 0 then q else if nxh E m 1 N 0 = 0 then q else hl1 E N d (m &&& (bitN (nxh E m 1 N 0) ^^^ (-1))) (tr1 E q.1 q.2 (nxh E m 1 N 0), trl E q.1 (nxh E m 1 N 0) 0 9 q.2)
def ol1 (E : Ed) (N : Nat) (pl : Nat → Int32) : Nat → Int64 → (Nat → Nat) × (Nat → Nat) → (Nat → Nat) × (Nat → Nat)
  | 0, _, q => q
  | d + 1, m, q => if lg_cmp m 0 = 0 then q else if nxo E pl m 1 N 0 = 0 then q else ol1 E N pl d (m &&& (bitN (nxo E pl m 1 N 0) ^^^ (-1))) (tr1 E q.1 q.2 (nxo E pl m 1 N 0), trl E q.1 (nxo E pl m 1 N 0) 0 9 q.2)
theorem try_none (h : RV σ P E N ag gA gT gR ml pl) (m : Int64) (x : Option Nat) : cJ rF nRe_tryOne [sA (some (pd P 2)), sA none, sJ m, sA x] σ = some (0, σ) := by
  refine cJ_of ((eRe_tryOne _ _ _ _ σ).trans ?_)
  rw [if_neg (by simp)]
theorem Re_res_35 (hS : RS P E N) (c hv : Int64) : ∀ (d i : Nat) (m : Int64) (σ : Hp) (gT gR : Nat → Nat), i + d = 40 → RV σ P E N ag gA gT gR ml pl → gle gR N → ∃ σ1, fRe_resolve_35 (some (pd P 2)) (some (pd P 10)) c hv m (nI i) σ = fRe_resolve_70 (some (pd P 2)) (some (pd P 10)) c hv σ1 ∧ RV σ1 P E N ag gA (hl1 E N d m (gR, gT)).2 (hl1 E N d m (gR, gT)).1 ml pl ∧ gle (hl1 E N d m (gR, gT)).1 N ∧ FrR P σ σ1 := by
  intro d
  induction d with
  | zero =>
    intro i m σ gT gR hi h hR
    have : i = 40 := by omega
    subst this
    refine ⟨σ, ?_, h, hR, FrR.rf P σ⟩
    rw [eRe_resolve_35, if_pos (show (40 : Int32) ≤ nI 40 by decide)]
  | succ d ih =>
    intro i m σ gT gR hi h hR
    rw [eRe_resolve_35, if_neg (i40 (show i < 40 by omega))]
    show ∃ σ1, _ ∧ RV σ1 P E N ag gA (if lg_cmp m 0 = 0 then (gR, gT) else if nxh E m 1 N 0 = 0 then (gR, gT) else hl1 E N d (m &&& (bitN (nxh E m 1 N 0) ^^^ (-1))) (tr1 E gR gT (nxh E m 1 N 0), trl E gR (nxh E m 1 N 0) 0 9 gT)).2 (if lg_cmp m 0 = 0 then (gR, gT) else if nxh E m 1 N 0 = 0 then (gR, gT) else hl1 E N d (m &&& (bitN (nxh E m 1 N 0) ^^^ (-1))) (tr1 E gR gT (nxh E m 1 N 0), trl E gR (nxh E m 1 N 0) 0 9 gT)).1 ml pl ∧ gle (if lg_cmp m 0 = 0 then (gR, gT) else if nxh E m 1 N 0 = 0 then (gR, gT) else hl1 E N d (m &&& (bitN (nxh E m 1 N 0) ^^^ (-1))) (tr1 E gR gT (nxh E m 1 N 0), trl E gR (nxh E m 1 N 0) 0 9 gT)).1 N ∧ _
    by_cases c1 : lg_cmp m 0 = 0
    · simp only [if_pos c1]
      exact ⟨σ, rfl, h, hR, FrR.rf P σ⟩
    · simp only [if_neg c1]
      obtain ⟨hx, hle⟩ := Re_nextHeavy hS h m
      simp only [h.rc, hx, Option.bind_some]
      by_cases c2 : nxh E m 1 N 0 = 0
      · simp only [if_pos c2, c2, er_0, try_none h, Option.bind_some]
        refine ⟨σ, ?_, h, hR, FrR.rf P σ⟩
        rw [eRe_resolve_35]
        split
        · rfl
        · rw [if_pos (show lg_cmp 0 0 = 0 by decide)]
      · simp only [if_neg c2, er_n c2]
        obtain ⟨σ1, w1, v1, g1, f1⟩ := Re_tryOne hS h hR (e := nxh E m 1 N 0) (by omega) hle m
        simp only [w1, Option.bind_some, nI1]
        obtain ⟨σ2, w2, v2, g2, f2⟩ := ih (i + 1) _ σ1 _ _ (by omega) v1 g1
        exact ⟨σ2, w2, v2, g2, f1.tr f2⟩
theorem Re_res_89 (hS : RS P E N) : ∀ (d i : Nat) (m : Int64) (σ : Hp) (gT gR : Nat → Nat), i + d = 40 → RV σ P E N ag gA gT gR ml pl → gle gR N → ∃ σ1, fRe_resolve_89 (some (pd P 2)) (some (pd P 10)) m (nI i) σ = fRe_resolve_124 (some (pd P 2)) (some (pd P 10)) σ1 ∧ RV σ1 P E N ag gA (ol1 E N pl d m (gR, gT)).2 (ol1 E N pl d m (gR, gT)).1 ml pl ∧ gle (ol1 E N pl d m (gR, gT)).1 N ∧ FrR P σ σ1 := by
  intro d
  induction d with
  | zero =>
    intro i m σ gT gR hi h hR
    have : i = 40 := by omega
    subst this
    refine ⟨σ, ?_, h, hR, FrR.rf P σ⟩
    rw [eRe_resolve_89, if_pos (show (40 : Int32) ≤ nI 40 by decide)]
  | succ d ih =>
    intro i m σ gT gR hi h hR
    rw [eRe_resolve_89, if_neg (i40 (show i < 40 by omega))]
    show ∃ σ1, _ ∧ RV σ1 P E N ag gA (if lg_cmp m 0 = 0 then (gR, gT) else if nxo E pl m 1 N 0 = 0 then (gR, gT) else ol1 E N pl d (m &&& (bitN (nxo E pl m 1 N 0) ^^^ (-1))) (tr1 E gR gT (nxo E pl m 1 N 0), trl E gR (nxo E pl m 1 N 0) 0 9 gT)).2 (if lg_cmp m 0 = 0 then (gR, gT) else if nxo E pl m 1 N 0 = 0 then (gR, gT) else ol1 E N pl d (m &&& (bitN (nxo E pl m 1 N 0) ^^^ (-1))) (tr1 E gR gT (nxo E pl m 1 N 0), trl E gR (nxo E pl m 1 N 0) 0 9 gT)).1 ml pl ∧ gle (if lg_cmp m 0 = 0 then (gR, gT) else if nxo E pl m 1 N 0 = 0 then (gR, gT) else ol1 E N pl d (m &&& (bitN (nxo E pl m 1 N 0) ^^^ (-1))) (tr1 E gR gT (nxo E pl m 1 N 0), trl E gR (nxo E pl m 1 N 0) 0 9 gT)).1 N ∧ _
    by_cases c1 : lg_cmp m 0 = 0
    · simp only [if_pos c1]
      exact ⟨σ, rfl, h, hR, FrR.rf P σ⟩
    · simp only [if_neg c1]
      obtain ⟨hx, hle⟩ := Re_nextOther hS h m
      simp only [h.rc, hx, Option.bind_some]
      by_cases c2 : nxo E pl m 1 N 0 = 0
      · simp only [if_pos c2, c2, er_0, try_none h, Option.bind_some]
        refine ⟨σ, ?_, h, hR, FrR.rf P σ⟩
        rw [eRe_resolve_89]
        split
        · rfl
        · rw [if_pos (show lg_cmp 0 0 = 0 by decide)]
      · simp only [if_neg c2, er_n c2]
        obtain ⟨σ1, w1, v1, g1, f1⟩ := Re_tryOne hS h hR (e := nxo E pl m 1 N 0) (by omega) hle m
        simp only [w1, Option.bind_some, nI1]
        obtain ⟨σ2, w2, v2, g2, f2⟩ := ih (i + 1) _ σ1 _ _ (by omega) v1 g1
        exact ⟨σ2, w2, v2, g2, f1.tr f2⟩
/-- the resolution's answer g: from what lay there (ag, gA, gT, pl) and some row m0 of -1 -/
def Rsl (E : Ed) (N : Nat) (S : Int64) (ag : Nat → Int32) (gA gT : Nat → Nat) (pl m0 : Nat → Int32) : Nat → Nat :=
  rst (agq E S N (ag, gA)).1 (agq E S N (ag, gA)).2 0 9 (ol1 E N (pls E (mln E 40 0 ((hl1 E N 40 (hwc E (fct E S (agq E S N (ag, gA)).1 1 N (0, 0, -1)) 1 N 0) ((agq E S N (ag, gA)).2, gT)).1 1) m0) 1 N pl) 40 (fct E S (agq E S N (ag, gA)).1 1 N (0, 0, -1) &&& (hwc E (fct E S (agq E S N (ag, gA)).1 1 N (0, 0, -1)) 1 N 0 ^^^ (-1))) (hl1 E N 40 (hwc E (fct E S (agq E S N (ag, gA)).1 1 N (0, 0, -1)) 1 N 0) ((agq E S N (ag, gA)).2, gT))).1
theorem Re_resolve (hS : RS P E N) (h : RV σ P E N ag gA gT gR ml pl) (hg : gle gA N) (S : Int64) : ∃ σ1 ag1 gA1 gT1 ml1 pl1 m0, cV rF nRe_resolve [sA (some (pd P 2)), sJ S, sA (some (pd P 10))] σ = some σ1 ∧ RV σ1 P E N ag1 gA1 gT1 (Rsl E N S ag gA gT pl m0) ml1 pl1 ∧ gle gA1 N ∧ gle (Rsl E N S ag gA gT pl m0) N ∧ (∀ j, j < 41 → m0 j = -1) ∧ FrR P σ σ1 := by
  obtain ⟨σ1, w1, v1, g1, f1⟩ := Re_findAgreed hS S h hg
  obtain ⟨σ2, w2, v2, f2⟩ := Re_copyR hS v1 g1
  have w3 := Re_findContested hS v2 S
  have w4 := Re_heavyWithChains hS v2 (fct E S (agq E S N (ag, gA)).1 1 N (0, 0, -1))
  obtain ⟨σ5, w5, v5, g5, f5⟩ := Re_res_35 hS (fct E S (agq E S N (ag, gA)).1 1 N (0, 0, -1)) (hwc E (fct E S (agq E S N (ag, gA)).1 1 N (0, 0, -1)) 1 N 0) 40 0 (hwc E (fct E S (agq E S N (ag, gA)).1 1 N (0, 0, -1)) 1 N 0) σ2 _ _ rfl v2 g1
  obtain ⟨σ6, m2, p2, w6, v6, ⟨m0, e1, e2, e3⟩, f6⟩ := Re_findPlaces hS v5 g5
  subst e2
  subst e3
  obtain ⟨σ7, w7, v7, g7, f7⟩ := Re_res_89 hS 40 0 (fct E S (agq E S N (ag, gA)).1 1 N (0, 0, -1) &&& (hwc E (fct E S (agq E S N (ag, gA)).1 1 N (0, 0, -1)) 1 N 0 ^^^ (-1))) σ6 _ _ rfl v6 g5
  obtain ⟨σ8, w8, v8, g8, f8⟩ := Re_restoreAgreed hS v7 g1 g7
  refine ⟨σ8, _, _, _, _, _, m0, cV_of ((eRe_resolve _ _ _ σ).trans ?_), v8, g1, g8, e1, ((((f1.tr f2).tr f5).tr f6).tr f7).tr f8⟩
  simp only [h.rc, w1, v1.f2, v1.stR.rc, w2, v2.rc, w3, w4, Option.bind_some]
  refine Eq.trans (show fRe_resolve_35 _ _ _ _ _ (0 : Int32) σ2 = _ from w5) ?_
  rw [eRe_resolve_70]
  simp only [v5.rc, w6, Option.bind_some]
  refine Eq.trans (show fRe_resolve_89 _ _ _ (0 : Int32) σ6 = _ from w7) ?_
  rw [eRe_resolve_124]
  simp only [v7.rc, w8, Option.bind_some]
end RSL
