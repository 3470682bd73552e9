/-! act and branch, both sides. -/
section ACT2
variable {σ : Hp} {o b sL rm sr wi wa : Nat} {xs : Nat → Int32} {se : Nat → Nat}
/-- the servers' invariant with one event more -/
theorem SvI.ext {E : Ed} {N k u t : Nat} {v tm : Int32} {pv : Int64} {g : Nat → Nat} {q : Sv} (h : SvI E N q) : SvI (EN E N k u t v tm pv g) (N + 1) q := ⟨h.1.ext Ex_sam, h.2⟩
theorem Prp.moa {σ : Hp} {I : Nat → Nat → Int32} {L : Nat → Nat → Int64} {E X : Ed} {N c : Nat} {Q : Nat → Sv} {M : Nat → Ms} {nw : Int32} {g : Nat → Nat} (h : MoR σ o (nw, nI N, nI c) I L) (hP : Prp I L E N Q M c X g) (hs : Sam E X N) : MoA σ o E N Q M c nw I L := by
  obtain ⟨m2, m3, m4, m5, m6, -⟩ := hP
  refine ⟨h, fun n n1 n2 => ?_, m3, m4, m5, m6⟩
  obtain ⟨⟨s1, s2, s3, s4, s5⟩, ⟨s6, s7, s8, s9⟩, -⟩ := hs n n2
  have := m2 n n1 (by omega)
  rw [s1, s2, s3, s4, s5, s7, s8, s9] at this
  exact this
theorem stq_act (hR : Rl σ o b sL xs rm sr wi wa se) (u k t v : Int32) : StpR σ o b sL xs rm sr wi wa se nRm_act nMo_act [sI u, sI k, sI t, sI v] := by
  have hR' := hR
  obtain ⟨ma, P, E, N, Q, M, c, nw, I, L, hC, hM, hI, hS, hMs⟩ := hR'
  have hC' := hC
  obtain ⟨h1, ⟨ag, gA, gT, gR, ml, pl, hv, -⟩, -, h4, h5, h6, h7, h8, -, o6, o7, o8⟩ := hC'
  have hN40 : N ≤ 40 := hI.1.2
  have m1 := hM.1
  have cb := Rm_canBeMade h1 hv.hi hN40 u k t v
  by_cases ok : fit u k t v = true ∧ N < 40
  · obtain ⟨ft, hN⟩ := ok
    obtain ⟨u', k', t', hu, ⟨hk1, hk7⟩, ht, rfl, rfl, rfl⟩ := fit_in ft
    have hp : u' % 3 < 3 := Nat.mod_lt _ (by decide)
    have hs := ends_src hI (hS _ hp)
    have hsIn := Src.in hs
    obtain ⟨σb, σc, σd, ea, g, e1, rc1, rb, ⟨g4, g5⟩, rcb, e2, rc2, e3, ms, md, rr⟩ := Rm_make hC hI hN hs k' u' t' hk7 v
    obtain ⟨kg, g0⟩ := rr.k hI hs
    -- the class's reads on the heap with the new object
    have ka : ∀ i, Kg i σ (mkO σ 1) := fun i => new_kg h6
    have ra : RmC (mkO σ 1) rm (pd P 0) (pd P 2) sr wi (pd P 10) nw := ka 2 _ _ rfl h1
    have va := hv.kg (ka 1)
    have sa := h4.kg (ka 3)
    have ec : cJ rF nRm_endsOf [sA (some rm), sA (some (se (u' % 3)))] (mkO σ 1) = some (edq E N (Q (u' % 3)), mkO σ 1) := Rm_endsOf hN40 ra va.hi va.ev (sa.2.1 _ hp)
    have ek : eK (X0 E N k' u' t' (vle E g k' t' v) (edq E N (Q (u' % 3)))) (N + 1) = k' := va_up_self _ _ _
    have es : eS (X0 E N k' u' t' (vle E g k' t' v) (edq E N (Q (u' % 3)))) (N + 1) = u' := va_up_self _ _ _
    have et : eT (X0 E N k' u' t' (vle E g k' t' v) (edq E N (Q (u' % 3)))) (N + 1) = t' := va_up_self _ _ _
    have al : cI rF nSt_allows [sA (some (σ.1 + 1)), sA (some σ.1)] σd = some (alw (X0 E N k' u' t' (vle E g k' t' v) (edq E N (Q (u' % 3)))) g (N + 1), σd) := St_allows md.1.st1 (md.ev.sam Ex_sam) kg.gle (md.1.evo E (fun _ => 0) (fun _ => 0)) (by rw [ek]; exact hk7) (by rw [es]; exact hu) (by rw [et]; exact ht)
    have s1d : ∀ l, rcv σd (sA (some (σ.1 + 1)) :: l) 6 = some (σ.1 + 1) := fun l => md.1.st1.rc l
    have rd : RmC σd rm (pd P 0) (pd P 2) sr wi (pd P 10) nw := md.2.2.2.1 2 (by decide) _ _ rfl h1
    have cb1 : cI rF nRm_canBeMade [sA (some rm), sI (nI u'), sI (nI k'), sI (nI t'), sI v] σ = some (1, σ) := by
      rw [cb, if_pos ⟨ft, hN⟩]
    have mf : ∀ s : Hp, cI rF nMo_fits [sI (nI u'), sI (nI k'), sI (nI t'), sI v] s = some (1, s) := fun s => by
      rw [Mo_fits, if_pos ft]
    have n40 : ¬ nI N = (40 : Int32) := fun z => by
      have := (nI_eq (a := N) (b := 40) (by omega) (by decide)).mp z
      omega
    -- the reference, from a heap on which it stands as before
    have mo : ∀ σz, Kp22 o σ σz → ∃ σe σf If Lf, cJ rF nMo_endsOf [sA (some o), sI (nI (u' % 3))] σz = some (edq E N (Q (u' % 3)), σz) ∧ (∀ l, rcv σz (sA (some o) :: l) 8 = some o) ∧ gfI σz (some o) 8 2 = some (nI N) ∧ cV rF nMo_resolve [sA (some o), sJ (edq E N (Q (u' % 3)))] σz = some σe ∧ (∀ l, rcv σe (sA (some o) :: l) 8 = some o) ∧ cV rF nMo_prepare [sA (some o), sI (nI u'), sI (nI k'), sI (nI t'), sI v, sJ (edq E N (Q (u' % 3)))] σe = some σf ∧ MoR σf o (nw, nI N, nI c) If Lf ∧ Prp If Lf E N Q M c (EN E N k' u' t' (vle E g k' t' v) (nw + (Q (u' % 3)).2.2.2) (edq E N (Q (u' % 3))) g) g ∧ FrM o σz σf ∧ (∃ w, σz.2.2 o = some (moc o w)) ∧ cI rF nMo_allowed [sA (some o), sI (nI (N + 1)), sA (some (o + 12))] σf = some (alw (X0 E N k' u' t' (vle E g k' t' v) (edq E N (Q (u' % 3)))) g (N + 1), σf) := by
      intro σz kz
      have hMz : MoA σz o E N Q M c nw I L := ⟨m1.kp kz, hM.2⟩
      have ee : cJ rF nMo_endsOf [sA (some o), sI (nI (u' % 3))] σz = some (edq E N (Q (u' % 3)), σz) := (Mo_endsOf hN40 hMz.1 hMz.2.1 hMz.2.2.2.2.1 rfl hp).trans (congrArg (fun z => some (z, σz)) (eds_eq hN40 (edq_in (hS _ hp))))
      obtain ⟨σe, σf, If, Lf, q1, q2, q3, q4, q5, q6⟩ := Mo_make hMz hI hN hs rr hk1 hk7 hu ht v
      have hY : ∀ j, j < 9 → alI σf (some (o + 12)) (nI j) = some (nI (g j)) := fun j hj => (q4.g12 hj).trans (congrArg some (q5.2.2.2.2.2 j hj))
      have x1 : eK (EN E N k' u' t' (vle E g k' t' v) (nw + (Q (u' % 3)).2.2.2) (edq E N (Q (u' % 3))) g) (N + 1) = k' := va_up_self _ _ _
      have x2 : eS (EN E N k' u' t' (vle E g k' t' v) (nw + (Q (u' % 3)).2.2.2) (edq E N (Q (u' % 3))) g) (N + 1) = u' := va_up_self _ _ _
      have x3 : eT (EN E N k' u' t' (vle E g k' t' v) (nw + (Q (u' % 3)).2.2.2) (edq E N (Q (u' % 3))) g) (N + 1) = t' := va_up_self _ _ _
      have x4 : eS (EN E N k' u' t' (vle E g k' t' v) (nw + (Q (u' % 3)).2.2.2) (edq E N (Q (u' % 3))) g) 1 = 0 := (va_up_ne _ _ (show 1 ≠ N + 1 by have := hI.1.1; omega)).trans hI.2.2.1.2.1
      have al' := Mo_allowed q4 q5.1 (show N + 1 ≤ 40 by omega) (show 1 ≤ N + 1 by omega) (Nat.le_refl _) hY (fun j hj => by have := kg.gle j hj; omega) (Or.inr g0) x4 (by rw [x1]; exact hk1) (by rw [x1]; exact hk7) (by rw [x2]; exact hu) (by rw [x3]; exact ht)
      exact ⟨σe, σf, If, Lf, ee, fun l => hMz.1.rc l, hMz.1.made, q1, q2, q3, q4, q5, q6, ⟨_, hMz.1.1⟩, al'.trans (congrArg (fun r => some (r, σf)) (alw_ex _ _ _ _ _ _ _ _ _ _ _ _ _ _ _ _ _ _ _ _ _))⟩
    by_cases aw : alw (X0 E N k' u' t' (vle E g k' t' v) (edq E N (Q (u' % 3)))) g (N + 1) = 0
    · -- refused
      have cd := md.no hC ms
      obtain ⟨σe, σf, If, Lf, q0, q0', q0'', q1, q2, q3, q4, q5, q6, q7, q8⟩ := mo σd md.2.2.2.2.1
      refine ⟨-1, σd, σf, cI_of ((eRm_act _ _ _ _ _ σ).trans ?_), cI_of ((eMo_act _ _ _ _ _ σd).trans ?_), cd.2.2.2.2.2.2.1, q7, ⟨ma, _, E, N, Q, M, c, nw, If, Lf, cd.fr q6, q5.moa q4 Ex_sam, hI, hS, hMs⟩, ?_, ?_⟩
      · simp only [h1.rc, cb1, Option.bind_some, if_pos i10, ra.f0, va.hi.made, nI1, ra.f2, md3 u' hu, sa.at hp, ra.rc, ec, rc1, e1, rb.f1, g4, g5, rcb, e2, rc2, e3, md.1.f5, s1d, al]
        rw [if_neg (fun z => z aw)]
      · simp only [mf, Option.bind_some, if_neg i10, q0'', if_pos n40, md3 u' hu, q0', q0, q1, q2, q3, q4.made, nI1, q4.f13, q4.rc, q8]
        rw [if_pos aw, eMo_act_73]
      · rw [q6.1, md.2.2.2.2.2.2.1]
        omega
      · rw [q6.2.1, md.2.2.2.2.2.2.2]
        omega
    · -- made
      obtain ⟨σz, mz, e4, cz, kz, sz1, sz2⟩ := Rm_publish hC md ms hI kg g0 hk1 hk7 hu ht hsIn
      obtain ⟨σe, σf, If, Lf, q0, q0', q0'', q1, q2, q3, q4, q5, q6, q7, q8⟩ := mo σz kz
      have hIN : InV (EN E N k' u' t' (vle E g k' t' v) (nw + (Q (u' % 3)).2.2.2) (edq E N (Q (u' % 3))) g) (N + 1) := EN_inv hI hN kg g0 hk1 hk7 hu ht hsIn
      obtain ⟨σg, Ig, p1, p2, p3, p4⟩ := Mo_finish hN hk1 hk7 hu ht kg.gle g0 hIN q4 q5 ((hS _ hp).ext)
      have nz : gfI σz (some σ.1) 1 0 = some (nI (N + 1)) := by
        obtain ⟨ag', gA', gT', gR', ml', pl', v', -⟩ := cz.2.1
        have := (v'.ev (N + 1) (by omega) (Nat.le_refl _)).num
        rw [show pe (Pn P N σ.1 ea (pd P)) (N + 1) = σ.1 from ms.2.1] at this
        exact this
      refine ⟨nI (N + 1), σz, σg, cI_of ((eRm_act _ _ _ _ _ σ).trans ?_), cI_of ((eMo_act _ _ _ _ _ σz).trans ?_), cz.2.2.2.2.2.2.1, q7, ⟨mz, _, _, N + 1, _, _, _, nw, Ig, Lf, cz.fr (q6.tr p4), p2, hIN, SvI.up (fun r hr => (hS r hr).ext) p3, (hMs.mono (Nat.le_succ N)).pblz hp (by omega) (Nat.le_refl _) 3 0 (M, c) (by decide)⟩, ?_, ?_⟩
      · simp only [h1.rc, cb1, Option.bind_some, if_pos i10, ra.f0, va.hi.made, nI1, ra.f2, md3 u' hu, sa.at hp, ra.rc, ec, rc1, e1, rb.f1, g4, g5, rcb, e2, rc2, e3, md.1.f5, s1d, al]
        rw [if_pos aw]
        simp only [rd.rc, e4, nz, Option.bind_some]
      · simp only [mf, Option.bind_some, if_neg i10, q0'', if_pos n40, md3 u' hu, q0', q0, q1, q2, q3, q4.made, nI1, q4.f13, q4.rc, q8]
        rw [if_neg aw]
        simp only [p1, Option.bind_some, eMo_act_73]
      · rw [p4.1, q6.1]
        omega
      · rw [p4.2.1, q6.2.1]
        omega
  · refine hR.ro (v := -1) (cI_of ((eRm_act _ _ _ _ _ σ).trans ?_)) (cI_of ((eMo_act _ _ _ _ _ σ).trans ?_))
    · simp only [h1.rc, cb, if_neg ok, Option.bind_some, not_true_eq_false, if_false]
    · simp only [Mo_fits, Option.bind_some, eMo_act_20, m1.made]
      by_cases ft : fit u k t v = true
      · have : N = 40 := by
          by_cases n : N < 40
          · exact absurd ⟨ft, n⟩ ok
          · omega
        subst this
        have n40 : ¬ ¬ nI 40 = (40 : Int32) := fun z => z rfl
        rw [if_pos ft, if_neg i10, if_neg n40]
      · rw [if_neg ft, if_pos rfl]
theorem stp_branch (hR : Rl σ o b sL xs rm sr wi wa se) (u k t v pr : Int32) : StpR σ o b sL xs rm sr wi wa se nRm_branch nMo_branch [sI u, sI k, sI t, sI v, sI pr] := by
  have hR' := hR
  obtain ⟨ma, P, E, N, Q, M, c, nw, I, L, hC, hM, hI, hS, hMs⟩ := hR'
  have hC' := hC
  obtain ⟨h1, ⟨ag, gA, gT, gR, ml, pl, hv, -⟩, -, h4, h5, h6, h7, h8, -, o6, o7, o8⟩ := hC'
  have hN40 : N ≤ 40 := hI.1.2
  have m1 := hM.1
  have cb := Rm_canBeMade h1 hv.hi hN40 u k t v
  by_cases ok : fit u k t v = true ∧ N < 40
  · obtain ⟨ft, hN⟩ := ok
    obtain ⟨u', k', t', hu, ⟨hk1, hk7⟩, ht, rfl, rfl, rfl⟩ := fit_in ft
    have hp : u' % 3 < 3 := Nat.mod_lt _ (by decide)
    have cb1 : cI rF nRm_canBeMade [sA (some rm), sI (nI u'), sI (nI k'), sI (nI t'), sI v] σ = some (1, σ) := by
      rw [cb, if_pos ⟨ft, hN⟩]
    have mf : ∀ s : Hp, cI rF nMo_fits [sI (nI u'), sI (nI k'), sI (nI t'), sI v] s = some (1, s) := fun s => by
      rw [Mo_fits, if_pos ft]
    have n40 : ¬ nI N = (40 : Int32) := fun z => by
      have := (nI_eq (a := N) (b := 40) (by omega) (by decide)).mp z
      omega
    rcases evn hN40 pr with ⟨s, s1, s2, rfl⟩ | hx
    · have s64 : s < 64 := by omega
      have st := Se_standingOf (h4.2.1 _ hp) s64
      have sr5 : rcv σ [sA (some (se (u' % 3))), sI (nI s)] 5 = some (se (u' % 3)) := se_rc (h4.2.1 _ hp) _
      have g17 : ∀ {s' : Hp}, MoR s' o (nw, nI N, nI c) I L → alI s' (some (o + 17)) (((41 : Int32) * nI (u' % 3)) + nI s) = some (stn (Q (u' % 3)) s) := fun m => by
        rw [nI41, m.g17 (show 41 * (u' % 3) + s < 123 by omega), (hM.2.2.2.2.1 _ hp).2 s s1 (by omega)]
      by_cases hd : stn (Q (u' % 3)) s = 2
      · have hh : hb (Q (u' % 3)).2.1 s = true := (stn_h _ _).mp hd
        have hs := one_src hN40 (hS _ hp) hh
        have hsIn := Src.in hs
        obtain ⟨σb, σc, σd, ea, g, e1, rc1, rb, ⟨g4, g5⟩, rcb, e2, rc2, e3, ms, md, rr⟩ := Rm_make hC hI hN hs k' u' t' hk7 v
        obtain ⟨kg, g0⟩ := rr.k hI hs
        have ka : ∀ i, Kg i σ (mkO σ 1) := fun i => new_kg h6
        have ra : RmC (mkO σ 1) rm (pd P 0) (pd P 2) sr wi (pd P 10) nw := ka 2 _ _ rfl h1
        have va := hv.kg (ka 1)
        have bt : cJ rF nRm_bit [sI (nI s)] (mkO σ 1) = some (bitN s, mkO σ 1) := Rm_bit s _
        have rd : RmC σd rm (pd P 0) (pd P 2) sr wi (pd P 10) nw := md.2.2.2.1 2 (by decide) _ _ rfl h1
        obtain ⟨σz, mz, e4, cz, kz, sz1, sz2⟩ := Rm_publish hC md ms hI kg g0 hk1 hk7 hu ht hsIn
        have hMz : MoA σz o E N Q M c nw I L := ⟨m1.kp kz, hM.2⟩
        obtain ⟨σe, σf, If, Lf, q1, q2, q3, q4, q5, q6⟩ := Mo_make hMz hI hN hs rr hk1 hk7 hu ht v
        have hIN : InV (EN E N k' u' t' (vle E g k' t' v) (nw + (Q (u' % 3)).2.2.2) (bitN s) g) (N + 1) := EN_inv hI hN kg g0 hk1 hk7 hu ht hsIn
        obtain ⟨σg, Ig, p1, p2, p3, p4⟩ := Mo_finish hN hk1 hk7 hu ht kg.gle g0 hIN q4 q5 ((hS _ hp).ext)
        have nz : gfI σz (some σ.1) 1 0 = some (nI (N + 1)) := by
          obtain ⟨ag', gA', gT', gR', ml', pl', v', -⟩ := cz.2.1
          have := (v'.ev (N + 1) (by omega) (Nat.le_refl _)).num
          rw [show pe (Pn P N σ.1 ea (pd P)) (N + 1) = σ.1 from ms.2.1] at this
          exact this
        have eb : (1 : Int64) <<< (Int32.toInt64 (nI s) &&& 63) = bitN s := rfl
        refine ⟨nI (N + 1), σz, σg, cI_of ((eRm_branch _ _ _ _ _ _ σ).trans ?_), cI_of ((eMo_branch _ _ _ _ _ _ σz).trans ?_), cz.2.2.2.2.2.2.1, ⟨_, hMz.1.1⟩, ⟨mz, _, _, N + 1, _, _, _, nw, Ig, Lf, cz.fr (q6.tr p4), p2, hIN, SvI.up (fun r hr => (hS r hr).ext) p3, (hMs.mono (Nat.le_succ N)).pblz hp (by omega) (Nat.le_refl _) 3 0 (M, c) (by decide)⟩, ?_, ?_⟩
        · simp only [h1.rc, cb1, Option.bind_some, if_neg i10, h1.f0, hv.hi.rc, Hi_hasE hv.hi hN40 s1 s2, h1.f2, md3 u' hu, h4.at hp, sr5, st]
          rw [if_pos hd]
          simp only [ra.f0, va.hi.made, nI1, bt, rc1, e1, rb.f1, g4, g5, rcb, e2, rc2, e3, rd.rc, e4, nz, Option.bind_some]
        · simp only [mf, Option.bind_some, if_neg i10, hMz.1.made, if_neg n40, hMz.1.rc, Mo_isE hMz.1 rfl hN40 s1 s2, hMz.1.f18, md3 u' hu, g17 hMz.1]
          rw [if_pos hd]
          simp only [eb, q1, q2, q3, q4.rc, p1, Option.bind_some]
        · rw [p4.1, q6.1]
          omega
        · rw [p4.2.1, q6.2.1]
          omega
      · refine hR.ro (v := -1) (cI_of ((eRm_branch _ _ _ _ _ _ σ).trans ?_)) (cI_of ((eMo_branch _ _ _ _ _ _ σ).trans ?_))
        · simp only [h1.rc, cb1, Option.bind_some, if_neg i10, h1.f0, hv.hi.rc, Hi_hasE hv.hi hN40 s1 s2, h1.f2, md3 u' hu, h4.at hp, sr5, st]
          rw [if_neg hd, eRm_branch_41]
        · simp only [mf, Option.bind_some, if_neg i10, m1.made, if_neg n40, m1.rc, Mo_isE m1 rfl hN40 s1 s2, m1.f18, md3 u' hu, g17 m1]
          rw [if_neg hd, eMo_branch_47]
    · refine hR.ro (v := -1) (cI_of ((eRm_branch _ _ _ _ _ _ σ).trans ?_)) (cI_of ((eMo_branch _ _ _ _ _ _ σ).trans ?_))
      · simp only [h1.rc, cb1, Option.bind_some, if_neg i10, h1.f0, hv.hi.rc, Hi_hasN hv.hi hx, if_true, eRm_branch_41]
      · simp only [mf, Option.bind_some, if_neg i10, m1.made, if_neg n40, m1.rc, Mo_isN m1 rfl hx, if_true, eMo_branch_47]
  · refine hR.ro (v := -1) (cI_of ((eRm_branch _ _ _ _ _ _ σ).trans ?_)) (cI_of ((eMo_branch _ _ _ _ _ _ σ).trans ?_))
    · simp only [h1.rc, cb, if_neg ok, Option.bind_some, if_true, eRm_branch_41]
    · simp only [Mo_fits, Option.bind_some, eMo_branch_47, m1.made]
      by_cases ft : fit u k t v = true
      · have : N = 40 := by
          by_cases n : N < 40
          · exact absurd ⟨ft, n⟩ ok
          · omega
        subst this
        rw [if_pos ft, if_neg i10, if_pos (show nI 40 = (40 : Int32) from rfl)]
      · rw [if_neg ft, if_pos rfl]
end ACT2
