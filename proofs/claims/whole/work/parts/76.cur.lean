/-! The resolution on both sides; current, member. -/
/-- g is the resolution of the sources S -/
def Res (E : Ed) (N : Nat) (S : Int64) (g : Nat → Nat) : Prop := ∃ ml pl : Nat → Int32, (∀ j, j < 41 → ml j = mln E 41 0 (hlM E N S 1) (fun _ => -1) j) ∧ PlOk E N ml pl ∧ ∀ k, k < 9 → g k = RsM E N S pl k
theorem Res.k {E : Ed} {N : Nat} {S : Int64} {g : Nat → Nat} (h : Res E N S g) (hI : InV E N) (hS : SrcOk E N S) : Kok E N g ∧ g 0 = 1 := by
  obtain ⟨ml, pl, -, -, e⟩ := h
  obtain ⟨a, b⟩ := RsM_k hI hS pl
  refine ⟨fun k hk => ?_, ?_⟩
  · rw [e k hk]
    exact a k hk
  · rw [e 0 (by decide)]
    exact b
theorem Re_res {σ : Hp} {P : Pa} {E : Ed} {N : Nat} {ag ml pl : Nat → Int32} {gA gT gR : Nat → Nat} {S : Int64} (hI : InV E N) (hS : SrcOk E N S) (hP : RS P E N) (h : RV σ P E N ag gA gT gR ml pl) (hg : gle gA N) : ∃ σ1 ag1 gA1 gT1 g ml1 pl1, cV rF nRe_resolve [sA (some (pd P 2)), sJ S, sA (some (pd P 10))] σ = some σ1 ∧ RV σ1 P E N ag1 gA1 gT1 g ml1 pl1 ∧ gle gA1 N ∧ gle g N ∧ Res E N S g ∧ FrR P σ σ1 := by
  obtain ⟨σ1, ag1, gA1, gT1, ml1, pl1, m0, e1, v1, g1, g2, hm, f1⟩ := Re_resolve hP h hg S
  obtain ⟨ml2, pl2, a1, a2, a3⟩ := Rsl_M hI.rok (Src.in hS) hI.2.1 (Src.fc hI hS) (Src.hw hI hS) ((Src.hl hI hS) 1 (by decide)).1 ag gA gT pl m0 hm
  exact ⟨σ1, ag1, gA1, gT1, _, ml1, pl1, e1, v1, g1, g2, ⟨ml2, pl2, a1, a2, a3⟩, f1⟩
theorem Mo_res {σ : Hp} {o N : Nat} {E : Ed} {w : Int32 × Int32 × Int32} {I : Nat → Nat → Int32} {L : Nat → Nat → Int64} {S : Int64} {g : Nat → Nat} (hI : InV E N) (hS : SrcOk E N S) (hR : Res E N S g) (h : MoR σ o w I L) (hE : MoE I L E N) (h11 : Mo11 I L E N) : ∃ σ1 I1, cV rF nMo_resolve [sA (some o), sJ S] σ = some σ1 ∧ MoR σ1 o w I1 L ∧ (∀ k, k ≠ 12 → k ≠ 13 → k ≠ 14 → k ≠ 15 → k ≠ 16 → I1 k = I k) ∧ (∀ j, j < 9 → I1 12 j = nI (g j)) ∧ FrM o σ σ1 := by
  obtain ⟨ml, pl, a1, a2, a3⟩ := hR
  obtain ⟨σ1, I1, e1, v1, i1, j1, f1⟩ := Mo_resolve hI.rok (Src.in hS) (Src.fc hI hS) (Src.hw hI hS) (Or.inr (gF0_k hI hS).2) h hE h11 a1 a2
  refine ⟨σ1, I1, e1, v1, i1, fun j hj => ?_, f1⟩
  rw [j1 j hj, a3 j hj]
section CUR
variable {σ : Hp} {o b sL rm sr wi wa : Nat} {xs : Nat → Int32} {se : Nat → Nat}
theorem Hfr.frr {σ σ1 : Hp} {P : Pa} {E : Ed} {N : Nat} {ag ml pl : Nat → Int32} {gA gT gR : Nat → Nat} (hF : Hfr σ) (h : FrR P σ σ1) (hv : RV σ P E N ag gA gT gR ml pl) : Hfr σ1 := by
  obtain ⟨-, -, h3, -, ⟨f5, h5, -⟩, -, ⟨f7, h7, -⟩, h8, h9, -, ⟨f11, h11, -⟩, -⟩ := hv
  intro a ha
  rw [h.1] at ha
  have l3 := hF.lt h3
  have l5 := hF.lt h5
  have l7 := hF.lt h7
  have l8 := hF.lt h8
  have l9 := hF.lt h9
  have l11 := hF.lt h11
  rw [h.2.2 a ⟨by omega, by omega, by omega, by omega, by omega, by omega⟩]
  exact hF a ha
/-- the class resolves into its view -/
theorem ClR.res {ma : Nat → Nat} {P : Pa} {E : Ed} {N c : Nat} {Q : Nat → Sv} {M : Nat → Ms} {nw : Int32} {S : Int64} (h : ClR σ o b sL xs rm sr wi wa se ma P E N Q M c nw) (hI : InV E N) (hS : SrcOk E N S) : ∃ σ1 ag1 gA1 gT1 g ml1 pl1, cV rF nRe_resolve [sA (some (pd P 2)), sJ S, sA (some (pd P 10))] σ = some σ1 ∧ RV σ1 P E N ag1 gA1 gT1 g ml1 pl1 ∧ gle g N ∧ Res E N S g ∧ ClR σ1 o b sL xs rm sr wi wa se ma P E N Q M c nw ∧ Kp22 o σ σ1 ∧ σ1.1 = σ.1 ∧ σ1.2.1 = σ.2.1 := by
  have hC := h
  obtain ⟨h1, ⟨ag, gA, gT, gR, ml, pl, h2, h2'⟩, h3, h4, h5, h6, h7, h8, o1, o6, o7, o8⟩ := h
  obtain ⟨σ1, ag1, gA1, gT1, g, ml1, pl1, e1, v1, g1, g2, r1, f1⟩ := Re_res hI hS h3 h2 h2'
  have kk : ∀ i, i ≠ 1 → Kg i σ σ1 := fun i hi => f1.kg h2 hi
  refine ⟨σ1, ag1, gA1, gT1, g, ml1, pl1, e1, v1, g2, r1, ⟨kk 2 (by decide) _ _ rfl h1, ⟨ag1, gA1, gT1, g, ml1, pl1, v1, g1⟩, h3, h4.kg (kk 3 (by decide)), h5.kg (kk 4 (by decide)), h6.frr f1 h2, kk 5 (by decide) _ _ rfl h7, ?_, o1, o6, o7, o8⟩, f1.kp22 (fun i hi => o8 _ (Or.inl ⟨i, hi, rfl⟩)), f1.1, f1.2.1⟩
  rw [f1.1]
  exact h8
theorem MoA.res {σ : Hp} {E : Ed} {N c : Nat} {Q : Nat → Sv} {M : Nat → Ms} {nw : Int32} {I : Nat → Nat → Int32} {L : Nat → Nat → Int64} {S : Int64} {g : Nat → Nat} (h : MoA σ o E N Q M c nw I L) (hI : InV E N) (hS : SrcOk E N S) (hR : Res E N S g) : ∃ σ1 I1, cV rF nMo_resolve [sA (some o), sJ S] σ = some σ1 ∧ MoA σ1 o E N Q M c nw I1 L ∧ (∀ j, j < 9 → I1 12 j = nI (g j)) ∧ FrM o σ σ1 := by
  obtain ⟨m1, m2, m3, m4, m5, m6⟩ := h
  obtain ⟨σ1, I1, e1, v1, i1, j1, f1⟩ := Mo_res hI hS hR m1 m2 m3
  have ii : ∀ k, (k < 12 ∨ 16 < k) → I1 k = I k := fun k hk => i1 k (by omega) (by omega) (by omega) (by omega) (by omega)
  refine ⟨σ1, I1, e1, ⟨v1, m2.of2 (fun k _ k6 => ii k (by omega)), m3.of (ii 11 (by decide)), fun n a1 a2 => ?_, fun r hr => ?_, ⟨m6.1, fun j hj => ?_⟩⟩, j1, f1⟩
  · rw [ii 10 (by decide)]
    exact m4 n a1 a2
  · rw [ii 1 (by decide), ii 17 (by decide)]
    exact m5 r hr
  · unfold Row
    rw [ii 18 (by decide), ii 19 (by decide), ii 20 (by decide), ii 21 (by decide), ii 22 (by decide)]
    exact m6.2 j hj
theorem stp_current (hR : Rl σ o b sL xs rm sr wi wa se) (x y : Int32) : StpR σ o b sL xs rm sr wi wa se nRm_current nMo_current [sI x, sI y] := by
  have hR' := hR
  obtain ⟨ma, P, E, N, Q, M, c, nw, I, L, hC, hM, hI, hS, hMs⟩ := hR'
  have hN : N ≤ 40 := hI.1.2
  have h1 := hC.1
  have h4 := hC.2.2.2.1
  obtain ⟨ag, gA, gT, gR, ml, pl, hv, -⟩ := hC.2.1
  rcases rng 3 (by decide) x with ⟨p, hp, rfl⟩ | hx
  · rcases rng 9 (by decide) y with ⟨k, hk, rfl⟩ | hy
    · have hs := ends_src hI (hS p hp)
      obtain ⟨σ1, ag1, gA1, gT1, g, ml1, pl1, e1, v1, g2, r1, c1, kc, s1, s2⟩ := hC.res hI hs
      have hM1 : MoA σ1 o E N Q M c nw I L := ⟨hM.1.kp kc, hM.2⟩
      obtain ⟨σ2, I2, e2, v2, j2, f2⟩ := hM1.res hI hs r1
      have ee : cJ rF nMo_endsOf [sA (some o), sI (nI p)] σ1 = some (edq E N (Q p), σ1) := (Mo_endsOf hN hM1.1 hM1.2.1 hM1.2.2.2.2.1 rfl hp).trans (congrArg (fun z => some (z, σ1)) (eds_eq hN (edq_in (hS p hp))))
      have ec : cJ rF nRm_endsOf [sA (some rm), sA (some (se p))] σ = some (edq E N (Q p), σ) := Rm_endsOf hN h1 hv.hi hv.ev (h4.2.1 p hp)
      have er : cV rF nMo_refresh [sA (some o), sI (nI p)] σ1 = some σ2 := by
        refine cV_of ((eMo_refresh _ _ σ1).trans ?_)
        simp only [hM1.1.rc, ee, e2, Option.bind_some]
      refine ⟨nI (g k), σ1, σ2, cI_of ((eRm_current _ _ _ σ).trans ?_), cI_of ((eMo_current _ _ _ σ1).trans ?_), c1.2.2.2.2.2.2.1, ⟨_, hM1.1.1⟩, ⟨ma, P, E, N, Q, M, c, nw, I2, L, c1.fr f2, v2, hI, hS, hMs⟩, ?_, ?_⟩
      · simp only [sv_in hp, ke_in hk, Option.bind_some, if_neg i10, if_pos i10, h1.f1, h1.f2, h4.at hp, h1.rc, ec, h1.f4, hv.rc, e1, c1.1.f4, v1.stR.rc, St_numberAt v1.stR v1.ev g2 hk]
      · simp only [mo3_in hp, mo9_in hk, Option.bind_some, if_neg i10, if_pos i10, hM1.1.rc, er, v2.1.f13, v2.1.g12 hk, j2 k hk]
      · rw [f2.1, s1]
        exact Nat.le_add_right _ _
      · rw [f2.2.1, s2]
        exact Nat.le_add_right _ _
    · refine hR.ro (v := -1) (cI_of ((eRm_current _ _ _ σ).trans ?_)) (cI_of ((eMo_current _ _ _ σ).trans ?_))
      · simp only [sv_in hp, ke_out hy, Option.bind_some, if_neg i10, not_true_eq_false, if_false, eRm_current_14]
      · simp only [mo3_in hp, mo9_out hy, Option.bind_some, if_neg i10, not_true_eq_false, if_false, eMo_current_19]
  · refine hR.ro (v := -1) (cI_of ((eRm_current _ _ _ σ).trans ?_)) (cI_of ((eMo_current _ _ _ σ).trans ?_))
    · simp only [sv_out hx, Option.bind_some, if_true, eRm_current_14]
    · simp only [mo3_out hx, Option.bind_some, if_true, eMo_current_19]
theorem stp_member (hR : Rl σ o b sL xs rm sr wi wa se) (x y : Int32) : StpR σ o b sL xs rm sr wi wa se nRm_member nMo_member [sI x, sI y] := by
  have hR' := hR
  obtain ⟨ma, P, E, N, Q, M, c, nw, I, L, hC, hM, hI, hS, hMs⟩ := hR'
  have hN : N ≤ 40 := hI.1.2
  have h1 := hC.1
  have h4 := hC.2.2.2.1
  obtain ⟨ag, gA, gT, gR, ml, pl, hv, -⟩ := hC.2.1
  rcases rng 3 (by decide) x with ⟨p, hp, rfl⟩ | hx
  · rcases rng 6 (by decide) y with ⟨u, hu, rfl⟩ | hy
    · have hs := ends_src hI (hS p hp)
      obtain ⟨σ1, ag1, gA1, gT1, g, ml1, pl1, e1, v1, g2, r1, c1, kc, s1, s2⟩ := hC.res hI hs
      have hM1 : MoA σ1 o E N Q M c nw I L := ⟨hM.1.kp kc, hM.2⟩
      obtain ⟨σ2, I2, e2, v2, j2, f2⟩ := hM1.res hI hs r1
      have g0 := (r1.k hI hs).2
      have ee : cJ rF nMo_endsOf [sA (some o), sI (nI p)] σ1 = some (edq E N (Q p), σ1) := (Mo_endsOf hN hM1.1 hM1.2.1 hM1.2.2.2.2.1 rfl hp).trans (congrArg (fun z => some (z, σ1)) (eds_eq hN (edq_in (hS p hp))))
      have ec : cJ rF nRm_endsOf [sA (some rm), sA (some (se p))] σ = some (edq E N (Q p), σ) := Rm_endsOf hN h1 hv.hi hv.ev (h4.2.1 p hp)
      have er : cV rF nMo_refresh [sA (some o), sI (nI p)] σ1 = some σ2 := by
        refine cV_of ((eMo_refresh _ _ σ1).trans ?_)
        simp only [hM1.1.rc, ee, e2, Option.bind_some]
      have hY : ∀ j, j < 9 → alI σ2 (some (o + 12)) (nI j) = some (nI (g j)) := fun j hj => (v2.1.g12 hj).trans (congrArg some (j2 j hj))
      refine ⟨mm E g u + ((8 : Int32) * lv E g u), σ1, σ2, cI_of ((eRm_member _ _ _ σ).trans ?_), cI_of ((eMo_member _ _ _ σ1).trans ?_), c1.2.2.2.2.2.2.1, ⟨_, hM1.1.1⟩, ⟨ma, P, E, N, Q, M, c, nw, I2, L, c1.fr f2, v2, hI, hS, hMs⟩, ?_, ?_⟩
      · simp only [sv_in hp, us_in hu, Option.bind_some, if_neg i10, if_pos i10, h1.f1, h1.f2, h4.at hp, h1.rc, ec, h1.f4, hv.rc, e1, c1.1.f4, v1.stR.rc, St_membership v1.stR v1.ev g2 hu, St_level v1.stR v1.ev g2 u]
      · simp only [mo3_in hp, mo6_in hu, Option.bind_some, if_neg i10, if_pos i10, hM1.1.rc, er, v2.1.f13, v2.1.rc, Mo_membership v2.1 v2.2.1 hN hY g2 hu, Mo_levelC v2.1 v2.2.1 hN hY g2 g0 hI.2.2.1.2.1 hu]
      · rw [f2.1, s1]
        exact Nat.le_add_right _ _
      · rw [f2.2.1, s2]
        exact Nat.le_add_right _ _
    · refine hR.ro (v := -1) (cI_of ((eRm_member _ _ _ σ).trans ?_)) (cI_of ((eMo_member _ _ _ σ).trans ?_))
      · simp only [sv_in hp, us_out hy, Option.bind_some, if_neg i10, not_true_eq_false, if_false, eRm_member_14]
      · simp only [mo3_in hp, mo6_out hy, Option.bind_some, if_neg i10, not_true_eq_false, if_false, eMo_member_18]
  · refine hR.ro (v := -1) (cI_of ((eRm_member _ _ _ σ).trans ?_)) (cI_of ((eMo_member _ _ _ σ).trans ?_))
    · simp only [sv_out hx, Option.bind_some, if_true, eRm_member_14]
    · simp only [mo3_out hx, Option.bind_some, if_true, eMo_member_18]
end CUR
