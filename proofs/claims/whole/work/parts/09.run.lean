/-! The step, then the run. -/
def rki (mt : Mt) (v : Option sv) (i : Instr) : Prop := (v = none ∧ i = .return_ ∧ mret mt = 0) ∨ (∃ x, v = some (sI x) ∧ i = .ireturn ∧ (mret mt = 1 ∨ (mret mt = 4 ∧ (x = 0 ∨ x = 1)))) ∨ (∃ x, v = some (sJ x) ∧ i = .lreturn ∧ mret mt = 2) ∨ (∃ x, v = some (sA x) ∧ i = .areturn ∧ mret mt = 3)
def σle (a b : Hp) : Prop := a.1 ≤ b.1 ∧ a.2.1 ≤ b.2.1
theorem swt_inv {k : Nat → Option Rs} {x : Int32} {r : Rs} {d pc : Nat} : ∀ (os : List Int) (lo : Int), swt k x (swl pc lo os) d = some r → (∃ (j : Nat) (o : Int), os[j]? = some o ∧ x = Int32.ofInt (lo + j) ∧ k ((pc : Int) + o).toNat = some r) ∨ ((∀ j : Nat, j < os.length → x ≠ Int32.ofInt (lo + j)) ∧ k d = some r) := by
  intro os
  induction os with
  | nil => intro lo h; exact Or.inr ⟨fun j hj => by simp at hj, h⟩
  | cons o t ih =>
    intro lo h
    have h' : (if x = Int32.ofInt lo then k ((pc : Int) + o).toNat else swt k x (swl pc (lo + 1) t) d) = some r := h
    by_cases e : x = Int32.ofInt lo
    · rw [if_pos e] at h'
      exact Or.inl ⟨0, o, rfl, by simpa using e, h'⟩
    · rw [if_neg e] at h'
      rcases ih (lo + 1) h' with ⟨j, o', h1, h2, h3⟩ | ⟨h1, h2⟩
      · refine Or.inl ⟨j + 1, o', by simpa using h1, ?_, h3⟩
        rw [h2]
        congr 1
        omega
      · refine Or.inr ⟨fun j hj => ?_, h2⟩
        cases j with
        | zero => simpa using e
        | succ j =>
          have := h1 j (by simpa using hj)
          intro q
          apply this
          rw [q]
          congr 1
          omega
theorem of_small {z : Int} (h1 : -2000 ≤ z) (h2 : z ≤ 2000) : (Int32.ofInt z).toInt = z := by
  first
    | exact Int32.toInt_ofInt_of_le (by omega) (by omega)
    | (rw [Int32.toInt_ofInt]; exact Int.bmod_eq_of_le (by omega) (by omega))
section RSIM
variable {p : Program} {l : Launch} {e : Env} {R : Room} {s : State} {m : MethodId} {args : Array Value} {below : List Frame} {meth : Method} {c : Code} {Q : State → Prop} {dA : Nat → ClassId} {D : va_G} {σ0 σ : Hp} {mt : Mt} {r : Rs} {k : Fr → Option Rs} {pc tgt : Nat} {lo : Ls} {st : List sv} {i : Instr}
/-- what the end of a walk needs -/
def Fin (p : Program) (l : Launch) (e : Env) (R : Room) (s : State) (m : MethodId) (args : Array Value) (below : List Frame) (meth : Method) (c : Code) (Q : State → Prop) (dA : Nat → ClassId) (D : va_G) (σ0 : Hp) (mt : Mt) (r : Rs) : Prop :=
  ∀ (i : Instr) (H : Heap) (locs : List Loc) (cells slots pc : Nat) (ls : Array Slot), Iv dA D s σ0 r.2 H locs cells slots → decode (byt (mnum mt)) pc = .ok (i, 1) → rki mt r.1 i → W p l e R s m args below meth c H locs cells slots Q (F0 m pc ls (r.1.toList.map sval))
set_option maxHeartbeats 4000000 in
theorem xhp_sim (ok : TbOk) (hC : Cx dA D p R s m args meth c mt) (gk : ∀ pc lo st σ, k (gto mt pc lo st σ) = some r → WW p l e R s m args below meth c Q dA D σ0 mt pc lo st σ ∧ σle σ r.2) (hc : ∀ M a σ r', MtOk M → wsum a ≤ mmax (mtd M) → k (ent M a σ) = some r' → MetR l dA D M a σ r' ∧ σle σ r'.2) (hRm : r.2.1 ≤ R.cells + σ0.1 ∧ r.2.2.1 ≤ R.slots + σ0.2.1)
    (hF : Fin p l e R s m args below meth c Q dA D σ0 mt r) {len : Nat} (hd : decode (byt (mnum mt)) pc = .ok (i, len)) (hi : ilo pc (i, len, tgt) = true) (h : xhp k mt pc lo st σ i tgt = some r) : WW p l e R s m args below meth c Q dA D σ0 mt pc lo st σ := by
  intro H locs cells slots ls hl hI
  have hlen : jtg i = none → isw i = false → len = iln i := by
    intro h1 h2
    unfold ilo at hi
    dsimp only at hi
    rw [h1] at hi
    dsimp only at hi
    rw [h2] at hi
    exact beq_eq' hi
  have hIc := hI.2.2.2.1
  have hIs := hI.2.2.2.2.1
  unfold xhp at h
  split at h
  · -- goto
    unfold ilo at hi
    dsimp only [jtg] at hi
    simp only [Bool.and_eq_true, decide_eq_true_eq] at hi
    have hl3 := beq_eq' hi.1
    subst hl3
    exact lv_goto hC.1 hC.2.1 hd hi.2 ((gk _ _ _ _ h).1 _ _ _ _ _ hl hI)
  · -- tableswitch
    rename_i d lw hw offs
    replace h := Option.bind_eq_some_iff.mp h
    obtain ⟨y, hy, h⟩ := h
    rw [pI_inv hy]
    unfold ilo at hi
    dsimp only [jtg, isw, swo, cond] at hi
    simp only [Bool.and_eq_true, decide_eq_true_eq, List.all_eq_true] at hi
    obtain ⟨b1, b2, b3, b4, b5⟩ := hi
    rcases swt_inv _ _ h with ⟨j, o, h1, h2, h3⟩ | ⟨h1, h2⟩
    · have hj : j < offs.toList.length := (List.getElem?_eq_some_iff.mp h1).1
      have hx : y.1.toInt = lw + j := by rw [h2]; exact of_small (by omega) (by omega)
      refine lv_tableIn (off := o) (tgt := ((pc : Int) + o).toNat) hC.1 hC.2.1 hd (by omega) (by omega) ?_ ?_ ((gk _ _ _ _ h3).1 _ _ _ _ _ hl hI)
      · rw [hx, show (lw + (j : Int) - lw).toNat = j by omega, ← Array.getElem?_toList]
        exact h1
      · have := b3 o (List.mem_of_getElem? h1)
        omega
    · refine lv_tableOut (tgt := ((pc : Int) + d).toNat) hC.1 hC.2.1 hd ?_ (by omega) ((gk _ _ _ _ h2).1 _ _ _ _ _ hl hI)
      rcases Int.lt_or_le y.1.toInt lw with q | q
      · exact Or.inl q
      · rcases Int.lt_or_le hw y.1.toInt with q2 | q2
        · exact Or.inr q2
        · exfalso
          refine h1 (y.1.toInt - lw).toNat (by omega) ?_
          rw [show lw + (((y.1.toInt - lw).toNat : Nat) : Int) = y.1.toInt by omega]
          exact (Int32.ofInt_toInt _).symm
  · -- getfield
    replace h := Option.bind_eq_some_iff.mp h
    obtain ⟨rr, hrr, h⟩ := h
    replace h := Option.bind_eq_some_iff.mp h
    obtain ⟨fe, hfe, h⟩ := h
    have hl3 := hlen rfl rfl
    subst hl3
    rw [pA_inv hrr]
    unfold rdf at h
    split at h
    · replace h := Option.bind_eq_some_iff.mp h
      obtain ⟨v, hv, h⟩ := h
      replace hv := Option.bind_eq_some_iff.mp hv
      obtain ⟨w, hw, hv⟩ := hv
      cases vI_inv hv
      exact get_sim ok hC hd hfe hI hw ((gk _ _ _ _ h).1 _ _ _ _ _ hl hI)
    · replace h := Option.bind_eq_some_iff.mp h
      obtain ⟨v, hv, h⟩ := h
      replace hv := Option.bind_eq_some_iff.mp hv
      obtain ⟨w, hw, hv⟩ := hv
      cases vI_inv hv
      exact get_sim ok hC hd hfe hI hw ((gk _ _ _ _ h).1 _ _ _ _ _ hl hI)
    · replace h := Option.bind_eq_some_iff.mp h
      obtain ⟨v, hv, h⟩ := h
      replace hv := Option.bind_eq_some_iff.mp hv
      obtain ⟨w, hw, hv⟩ := hv
      cases vJ_inv hv
      exact get_sim ok hC hd hfe hI hw ((gk _ _ _ _ h).1 _ _ _ _ _ hl hI)
    · replace h := Option.bind_eq_some_iff.mp h
      obtain ⟨v, hv, h⟩ := h
      replace hv := Option.bind_eq_some_iff.mp hv
      obtain ⟨w, hw, hv⟩ := hv
      cases vA_inv hv
      exact get_sim ok hC hd hfe hI hw ((gk _ _ _ _ h).1 _ _ _ _ _ hl hI)
    · cases h
  · -- putfield
    replace h := Option.bind_eq_some_iff.mp h
    obtain ⟨fe, hfe, h⟩ := h
    replace h := cond_some h
    obtain ⟨hfin, h⟩ := h
    have hl3 := hlen rfl rfl
    subst hl3
    unfold wrf at h
    split at h
    · rename_i hk
      replace h := Option.bind_eq_some_iff.mp h
      obtain ⟨v, hv, h⟩ := h
      replace h := Option.bind_eq_some_iff.mp h
      obtain ⟨rr, hrr, h⟩ := h
      replace h := Option.bind_eq_some_iff.mp h
      obtain ⟨σ', hp, h⟩ := h
      rw [pI_inv hv, pA_inv hrr]
      refine put_sim ok hC hd hfe hfin (v := sI v.1) (fun ty hty => ?_) hI hp (fun H1 L1 hI1 => (gk _ _ _ _ h).1 _ _ _ _ _ hl hI1)
      rcases hty with ⟨-, rfl⟩ | ⟨h1, -⟩ | ⟨h1, -⟩ | ⟨h1, -⟩
      · exact ⟨rfl, rfl⟩
      all_goals (rw [hk] at h1; cases h1)
    · rename_i hk
      replace h := Option.bind_eq_some_iff.mp h
      obtain ⟨v, hv, h⟩ := h
      replace h := Option.bind_eq_some_iff.mp h
      obtain ⟨rr, hrr, h⟩ := h
      replace h := Option.bind_eq_some_iff.mp h
      obtain ⟨σ', hp, h⟩ := h
      replace hp := ite_some hp
      obtain ⟨hz, hp⟩ := hp
      rw [pI_inv hv, pA_inv hrr]
      refine put_sim ok hC hd hfe hfin (v := sI v.1) (fun ty hty => ?_) hI hp (fun H1 L1 hI1 => (gk _ _ _ _ h).1 _ _ _ _ _ hl hI1)
      rcases hty with ⟨h1, -⟩ | ⟨-, rfl⟩ | ⟨h1, -⟩ | ⟨h1, -⟩
      · rw [hk] at h1; cases h1
      · rcases hz with hz | hz <;> (rw [hz]; exact ⟨rfl, rfl⟩)
      all_goals (rw [hk] at h1; cases h1)
    · rename_i hk
      replace h := Option.bind_eq_some_iff.mp h
      obtain ⟨v, hv, h⟩ := h
      replace h := Option.bind_eq_some_iff.mp h
      obtain ⟨rr, hrr, h⟩ := h
      replace h := Option.bind_eq_some_iff.mp h
      obtain ⟨σ', hp, h⟩ := h
      rw [pJ_inv hv, pA_inv hrr]
      refine put_sim ok hC hd hfe hfin (v := sJ v.1) (fun ty hty => ?_) hI hp (fun H1 L1 hI1 => (gk _ _ _ _ h).1 _ _ _ _ _ hl hI1)
      rcases hty with ⟨h1, -⟩ | ⟨h1, -⟩ | ⟨-, rfl⟩ | ⟨h1, -⟩
      · rw [hk] at h1; cases h1
      · rw [hk] at h1; cases h1
      · exact ⟨rfl, rfl⟩
      · rw [hk] at h1; cases h1
    · rename_i hk
      replace h := Option.bind_eq_some_iff.mp h
      obtain ⟨v, hv, h⟩ := h
      replace h := Option.bind_eq_some_iff.mp h
      obtain ⟨rr, hrr, h⟩ := h
      replace h := Option.bind_eq_some_iff.mp h
      obtain ⟨σ', hp, h⟩ := h
      rw [pA_inv hv, pA_inv hrr]
      refine put_sim ok hC hd hfe hfin (v := sA v.1) (fun ty hty => ?_) hI hp (fun H1 L1 hI1 => (gk _ _ _ _ h).1 _ _ _ _ _ hl hI1)
      rcases hty with ⟨h1, -⟩ | ⟨h1, -⟩ | ⟨h1, -⟩ | ⟨-, ⟨C, rfl⟩ | ⟨t, rfl⟩⟩
      · rw [hk] at h1; cases h1
      · rw [hk] at h1; cases h1
      · rw [hk] at h1; cases h1
      · rcases v.1 with _ | a <;> exact ⟨rfl, rfl⟩
      · rcases v.1 with _ | a <;> exact ⟨rfl, rfl⟩
    · cases h
  · -- iaload
    replace h := Option.bind_eq_some_iff.mp h
    obtain ⟨j, hj, h⟩ := h
    replace h := Option.bind_eq_some_iff.mp h
    obtain ⟨rr, hrr, h⟩ := h
    replace h := Option.bind_eq_some_iff.mp h
    obtain ⟨v, hv, h⟩ := h
    have hl3 := hlen rfl rfl
    subst hl3
    rw [pI_inv hj, pA_inv hrr]
    exact iald_sim hC hd hI hv ((gk _ _ _ _ h).1 _ _ _ _ _ hl hI)
  · -- baload
    replace h := Option.bind_eq_some_iff.mp h
    obtain ⟨j, hj, h⟩ := h
    replace h := Option.bind_eq_some_iff.mp h
    obtain ⟨rr, hrr, h⟩ := h
    replace h := Option.bind_eq_some_iff.mp h
    obtain ⟨v, hv, h⟩ := h
    have hl3 := hlen rfl rfl
    subst hl3
    rw [pI_inv hj, pA_inv hrr]
    exact zald_sim hC hd hI hv ((gk _ _ _ _ h).1 _ _ _ _ _ hl hI)
  · -- laload
    replace h := Option.bind_eq_some_iff.mp h
    obtain ⟨j, hj, h⟩ := h
    replace h := Option.bind_eq_some_iff.mp h
    obtain ⟨rr, hrr, h⟩ := h
    replace h := Option.bind_eq_some_iff.mp h
    obtain ⟨v, hv, h⟩ := h
    have hl3 := hlen rfl rfl
    subst hl3
    rw [pI_inv hj, pA_inv hrr]
    exact lald_sim hC hd hI hv ((gk _ _ _ _ h).1 _ _ _ _ _ hl hI)
  · -- aaload
    replace h := Option.bind_eq_some_iff.mp h
    obtain ⟨j, hj, h⟩ := h
    replace h := Option.bind_eq_some_iff.mp h
    obtain ⟨rr, hrr, h⟩ := h
    replace h := Option.bind_eq_some_iff.mp h
    obtain ⟨v, hv, h⟩ := h
    have hl3 := hlen rfl rfl
    subst hl3
    rw [pI_inv hj, pA_inv hrr]
    exact aald_sim ok hC hd hI hv ((gk _ _ _ _ h).1 _ _ _ _ _ hl hI)
  · -- arraylength
    replace h := Option.bind_eq_some_iff.mp h
    obtain ⟨rr, hrr, h⟩ := h
    replace h := Option.bind_eq_some_iff.mp h
    obtain ⟨v, hv, h⟩ := h
    have hl3 := hlen rfl rfl
    subst hl3
    rw [pA_inv hrr]
    exact alen_sim hC hd hI hv ((gk _ _ _ _ h).1 _ _ _ _ _ hl hI)
  · -- iastore
    replace h := Option.bind_eq_some_iff.mp h
    obtain ⟨v, hv, h⟩ := h
    replace h := Option.bind_eq_some_iff.mp h
    obtain ⟨j, hj, h⟩ := h
    replace h := Option.bind_eq_some_iff.mp h
    obtain ⟨rr, hrr, h⟩ := h
    replace h := Option.bind_eq_some_iff.mp h
    obtain ⟨σ', hs, h⟩ := h
    have hl3 := hlen rfl rfl
    subst hl3
    rw [pI_inv hv, pI_inv hj, pA_inv hrr]
    exact iast_sim hC hd hI hs (fun H1 L1 hI1 => (gk _ _ _ _ h).1 _ _ _ _ _ hl hI1)
  · -- bastore
    replace h := Option.bind_eq_some_iff.mp h
    obtain ⟨v, hv, h⟩ := h
    replace h := Option.bind_eq_some_iff.mp h
    obtain ⟨j, hj, h⟩ := h
    replace h := Option.bind_eq_some_iff.mp h
    obtain ⟨rr, hrr, h⟩ := h
    replace h := Option.bind_eq_some_iff.mp h
    obtain ⟨σ', hs, h⟩ := h
    have hl3 := hlen rfl rfl
    subst hl3
    rw [pI_inv hv, pI_inv hj, pA_inv hrr]
    exact zast_sim hC hd hI hs (fun H1 L1 hI1 => (gk _ _ _ _ h).1 _ _ _ _ _ hl hI1)
  · -- lastore
    replace h := Option.bind_eq_some_iff.mp h
    obtain ⟨v, hv, h⟩ := h
    replace h := Option.bind_eq_some_iff.mp h
    obtain ⟨j, hj, h⟩ := h
    replace h := Option.bind_eq_some_iff.mp h
    obtain ⟨rr, hrr, h⟩ := h
    replace h := Option.bind_eq_some_iff.mp h
    obtain ⟨σ', hs, h⟩ := h
    have hl3 := hlen rfl rfl
    subst hl3
    rw [pJ_inv hv, pI_inv hj, pA_inv hrr]
    exact last_sim hC hd hI hs (fun H1 L1 hI1 => (gk _ _ _ _ h).1 _ _ _ _ _ hl hI1)
  · -- aastore
    replace h := Option.bind_eq_some_iff.mp h
    obtain ⟨v, hv, h⟩ := h
    replace h := Option.bind_eq_some_iff.mp h
    obtain ⟨j, hj, h⟩ := h
    replace h := Option.bind_eq_some_iff.mp h
    obtain ⟨rr, hrr, h⟩ := h
    replace h := Option.bind_eq_some_iff.mp h
    obtain ⟨σ', hs, h⟩ := h
    have hl3 := hlen rfl rfl
    subst hl3
    rw [pA_inv hv, pI_inv hj, pA_inv hrr]
    exact aast_sim ok hC hd hI hs (fun H1 L1 hI1 => (gk _ _ _ _ h).1 _ _ _ _ _ hl hI1)
  · -- new
    replace h := Option.bind_eq_some_iff.mp h
    obtain ⟨ci, hci, h⟩ := h
    have hl3 := hlen rfl rfl
    subst hl3
    obtain ⟨hw, hm⟩ := gk _ _ _ _ h
    have hm1 : σ.1 + 1 ≤ r.2.1 := hm.1
    have hm2 : σ.2.1 + (cdf ci).length ≤ r.2.2.1 := hm.2
    exact new_sim ok hC hd hI hci (by omega) (by omega) (fun H1 hI1 => hw _ _ _ _ _ hl hI1)
  · -- newarray
    replace h := Option.bind_eq_some_iff.mp h
    obtain ⟨n, hn, h⟩ := h
    replace h := Option.bind_eq_some_iff.mp h
    obtain ⟨ak, hak, h⟩ := h
    replace h := Option.bind_eq_some_iff.mp h
    obtain ⟨σ', hs, h⟩ := h
    have hl3 := hlen rfl rfl
    subst hl3
    rw [pI_inv hn]
    obtain ⟨hw, hm⟩ := gk _ _ _ _ h
    have hs' := hs
    obtain ⟨-, hs'⟩ := ite_some hs'
    cases hs'
    have hm1 : σ.1 + 1 ≤ r.2.1 := hm.1
    have hm2 : σ.2.1 + n.1.toNatClampNeg ≤ r.2.2.1 := hm.2
    exact newa_sim ok hC hd hI hak hs (by omega) (by omega) (fun H1 hI1 => hw _ _ _ _ _ hl hI1)
  · -- anewarray
    replace h := Option.bind_eq_some_iff.mp h
    obtain ⟨n, hn, h⟩ := h
    replace h := Option.bind_eq_some_iff.mp h
    obtain ⟨ak, hak, h⟩ := h
    replace h := Option.bind_eq_some_iff.mp h
    obtain ⟨σ', hs, h⟩ := h
    have hl3 := hlen rfl rfl
    subst hl3
    rw [pI_inv hn]
    obtain ⟨hw, hm⟩ := gk _ _ _ _ h
    have hs' := hs
    obtain ⟨-, hs'⟩ := ite_some hs'
    cases hs'
    have hm1 : σ.1 + 1 ≤ r.2.1 := hm.1
    have hm2 : σ.2.1 + n.1.toNatClampNeg ≤ r.2.2.1 := hm.2
    exact newq_sim ok hC hd hI hak hs (by omega) (by omega) (fun H1 hI1 => hw _ _ _ _ _ hl hI1)
  · -- invokestatic
    replace h := Option.bind_eq_some_iff.mp h
    obtain ⟨M, hM, h⟩ := h
    replace h := Option.bind_eq_some_iff.mp h
    obtain ⟨q, hq, h⟩ := h
    replace h := cond_some h
    obtain ⟨hrm, h⟩ := h
    have hl3 := hlen rfl rfl
    subst hl3
    obtain ⟨b, hb1, hb2, hb3⟩ := popn_inv _ _ _ hq
    rw [List.append_nil] at hb2
    obtain ⟨r', h1, h2⟩ := cgo_inv h
    obtain ⟨hMt, hm'⟩ := hc _ _ _ _ (ok.2.2.1 _ _ _ hM).1 (rmk_inv hrm).2.2.2 h1
    obtain ⟨hw, hm⟩ := gk _ _ _ _ h2
    have hst : st.map sval = (q.1.map sval).reverse ++ q.2.map sval := by
      rw [hb1, hb2, List.map_append, List.map_reverse, List.reverse_reverse]
    rw [hst]
    have hm1 := hm.1
    have hm2 := hm.2
    have hm3 := hm'.1
    have hm4 := hm'.2
    refine stat_sim (r' := r') ok hC hd hM hl hI (by rw [hb2, List.length_reverse]; exact hb3) hrm hMt hm' ⟨by omega, by omega⟩ (fun H1 L1 hI1 => ?_)
    have := hw _ _ _ _ _ hl hI1
    rw [tol_map] at this
    exact this
  · -- invokevirtual
    replace h := Option.bind_eq_some_iff.mp h
    obtain ⟨M, hM, h⟩ := h
    replace h := Option.bind_eq_some_iff.mp h
    obtain ⟨q, hq, h⟩ := h
    replace h := Option.bind_eq_some_iff.mp h
    obtain ⟨rb, hrb, h⟩ := h
    replace h := cond_some h
    obtain ⟨hrm, h⟩ := h
    have hl3 := hlen rfl rfl
    subst hl3
    obtain ⟨b, hb1, hb2, hb3⟩ := popn_inv _ _ _ hq
    rw [List.append_nil] at hb2
    obtain ⟨r', h1, h2⟩ := cgo_inv h
    obtain ⟨hMt, hm'⟩ := hc _ _ _ _ (ok.2.2.2.1 _ _ _ hM).1 (rmk_inv hrm).2.2.2 h1
    obtain ⟨hw, hm⟩ := gk _ _ _ _ h2
    obtain ⟨t, fs, ht, hfs⟩ := rcv_inv hrb
    have hst : st.map sval = (t.map sval).reverse ++ .ref rb :: q.2.map sval := by
      have hbr : b = q.1.reverse := by rw [hb2, List.reverse_reverse]
      rw [hb1, hbr, ht, List.map_append]
      simp [sval, va_rf]
    rw [hst]
    rw [ht] at hMt
    have hm1 := hm.1
    have hm2 := hm.2
    have hm3 := hm'.1
    have hm4 := hm'.2
    have htl : t.length = marg (mtd M) := by
      have : q.1.length = marg (mtd M) + 1 := by rw [hb2, List.length_reverse]; exact hb3
      rw [ht] at this
      simpa using this
    refine virt_sim (r' := r') ok hC hd hM hl hI hfs htl hrm hMt hm' ⟨by omega, by omega⟩ (fun H1 L1 hI1 => ?_)
    have := hw _ _ _ _ _ hl hI1
    rw [tol_map] at this
    exact this
  · -- invokespecial
    have hl3 := hlen rfl rfl
    subst hl3
    split at h
    · rename_i M hM
      replace h := Option.bind_eq_some_iff.mp h
      obtain ⟨q, hq, h⟩ := h
      replace h := Option.bind_eq_some_iff.mp h
      obtain ⟨rb, hrb, h⟩ := h
      replace h := cond_some h
      obtain ⟨hrm, h⟩ := h
      obtain ⟨b, hb1, hb2, hb3⟩ := popn_inv _ _ _ hq
      rw [List.append_nil] at hb2
      obtain ⟨r', h1, h2⟩ := cgo_inv h
      obtain ⟨hMt, hm'⟩ := hc _ _ _ _ (ok.2.2.2.2.1 _ _ _ hM).1 (rmk_inv hrm).2.2.2 h1
      obtain ⟨hw, hm⟩ := gk _ _ _ _ h2
      obtain ⟨t, fs, ht, hfs⟩ := rcv_inv hrb
      have hst : st.map sval = (t.map sval).reverse ++ .ref rb :: q.2.map sval := by
        have hbr : b = q.1.reverse := by rw [hb2, List.reverse_reverse]
        rw [hb1, hbr, ht, List.map_append]
        simp [sval, va_rf]
      rw [hst]
      rw [ht] at hMt
      have hm1 := hm.1
      have hm2 := hm.2
      have hm3 := hm'.1
      have hm4 := hm'.2
      have htl : t.length = marg (mtd M) := by
        have : q.1.length = marg (mtd M) + 1 := by rw [hb2, List.length_reverse]; exact hb3
        rw [ht] at this
        simpa using this
      refine init_sim (r' := r') ok hC hd hM hl hI htl hrm hMt hm' ⟨by omega, by omega⟩ (fun H1 L1 hI1 => ?_)
      have := hw _ _ _ _ _ hl hI1
      rw [tol_map] at this
      exact this
    · replace h := Option.bind_eq_some_iff.mp h
      obtain ⟨rr, hrr, h⟩ := h
      replace h := Option.bind_eq_some_iff.mp h
      obtain ⟨a, ha, h⟩ := h
      replace h := cond_some h
      obtain ⟨hbb, h⟩ := h
      simp only [Bool.and_eq_true] at hbb
      obtain ⟨o1, o2, o3, o4⟩ := hbb
      obtain ⟨w1, w2, w3⟩ := ok.2.2.2.2.2.1 _ _ o1
      have hw := (gk _ _ _ _ h).1
      have q2 := Nat.le_of_ble_eq_true o2
      have q3 := Nat.le_of_ble_eq_true o3
      have q4 := Nat.le_of_ble_eq_true o4
      rw [pA_inv hrr, ha]
      obtain ⟨hx, hb, hml, -, -, hown, -, hts, hK, hfr, hwd⟩ := hC
      refine W.objInit (a := a) (rest := rr.2.map sval) hx hb hown (hts _ w1) (hts _ w2) (hts _ w3) rfl (by rw [hml]; exact hl.1) rfl hd (by omega) ?_ (hw _ _ _ _ _ hl hI)
      show 2 * 0 + ((rr.2.map sval).map fun v => v.category).sum + 12 ≤ R.locals
      rw [wsum_cat]
      omega
  · -- ireturn
    replace h := Option.bind_eq_some_iff.mp h
    obtain ⟨v, hv, h⟩ := h
    replace h := cond_some h
    obtain ⟨hn, h⟩ := h
    have hl3 := hlen rfl rfl
    subst hl3
    obtain ⟨v, t⟩ := v
    cases t with
    | cons _ _ => cases hn
    | nil =>
      rw [pI_inv hv]
      unfold rtI at h
      split at h
      · rename_i hmr
        cases h
        exact hF _ _ _ _ _ _ _ hI hd (Or.inr (Or.inl ⟨v, rfl, rfl, Or.inl hmr⟩))
      · rename_i hmr
        replace h := ite_some h
        obtain ⟨hz, h⟩ := h
        cases h
        exact hF _ _ _ _ _ _ _ hI hd (Or.inr (Or.inl ⟨v, rfl, rfl, Or.inr ⟨hmr, hz⟩⟩))
      · cases h
  · -- lreturn
    replace h := Option.bind_eq_some_iff.mp h
    obtain ⟨v, hv, h⟩ := h
    replace h := cond_some h
    obtain ⟨hn, h⟩ := h
    have hl3 := hlen rfl rfl
    subst hl3
    simp only [Bool.and_eq_true] at hn
    obtain ⟨v, t⟩ := v
    cases t with
    | cons _ _ => cases hn.1
    | nil =>
      rw [pJ_inv hv]
      cases h
      exact hF _ _ _ _ _ _ _ hI hd (Or.inr (Or.inr (Or.inl ⟨v, rfl, rfl, beq_eq' hn.2⟩)))
  · -- areturn
    replace h := Option.bind_eq_some_iff.mp h
    obtain ⟨v, hv, h⟩ := h
    replace h := cond_some h
    obtain ⟨hn, h⟩ := h
    have hl3 := hlen rfl rfl
    subst hl3
    simp only [Bool.and_eq_true] at hn
    obtain ⟨v, t⟩ := v
    cases t with
    | cons _ _ => cases hn.1
    | nil =>
      rw [pA_inv hv]
      cases h
      exact hF _ _ _ _ _ _ _ hI hd (Or.inr (Or.inr (Or.inr ⟨v, rfl, rfl, beq_eq' hn.2⟩)))
  · -- return
    replace h := cond_some h
    obtain ⟨hn, h⟩ := h
    have hl3 := hlen rfl rfl
    subst hl3
    simp only [Bool.and_eq_true] at hn
    cases st with
    | cons _ _ => cases hn.1
    | nil =>
      cases h
      exact hF _ _ _ _ _ _ _ hI hd (Or.inl ⟨rfl, rfl, beq_eq' hn.2⟩)
  · cases h
end RSIM
theorem pst_plain {o mx : Nat} {i : Instr} {lo : Ls} {st : List sv} {q : Ls × List sv} (h : pst o mx i lo st = some q) : jtg i = none ∧ isw i = false := by
  unfold pst at h
  split at h <;> first | exact ⟨rfl, rfl⟩ | cases h
theorem brc_jtg {i : Instr} {st : List sv} {q : Cd × List sv} (h : brc i st = some q) : ∃ o, jtg i = some o := by
  unfold brc at h
  split at h <;> first | exact ⟨_, rfl⟩ | cases h
section RSIM2
variable {p : Program} {l : Launch} {e : Env} {R : Room} {s : State} {m : MethodId} {args : Array Value} {below : List Frame} {meth : Method} {c : Code} {Q : State → Prop} {dA : Nat → ClassId} {D : va_G} {σ0 σ : Hp} {mt : Mt} {r : Rs} {k : Fr → Option Rs} {pc tgt : Nat} {lo : Ls} {st : List sv} {i : Instr}
theorem stp_sim (ok : TbOk) (hMt : CdOk (mnum mt)) (hmt : mtd (mnum mt) = mt) (hC : Cx dA D p R s m args meth c mt) (gk : ∀ pc lo st σ, k (gto mt pc lo st σ) = some r → WW p l e R s m args below meth c Q dA D σ0 mt pc lo st σ ∧ σle σ r.2) (hc : ∀ M a σ r', MtOk M → wsum a ≤ mmax (mtd M) → k (ent M a σ) = some r' → MetR l dA D M a σ r' ∧ σle σ r'.2) (hRm : r.2.1 ≤ R.cells + σ0.1 ∧ r.2.2.1 ≤ R.slots + σ0.2.1)
    (hF : Fin p l e R s m args below meth c Q dA D σ0 mt r) (h : stp k (mt, pc, lo, st, σ) = some r) : WW p l e R s m args below meth c Q dA D σ0 mt pc lo st σ := by
  unfold stp at h
  split at h
  · rename_i q hq
    obtain ⟨hd, hi⟩ := hMt pc q (by rw [hmt]; exact hq)
    unfold exe at h
    split at h
    · rename_i w hw
      obtain ⟨j1, j2⟩ := pst_plain hw
      have hlen : q.2.1 = iln q.1 := by
        unfold ilo at hi
        rw [j1] at hi
        dsimp only at hi
        rw [j2] at hi
        exact beq_eq' hi
      refine pst_sim ok hC (by rw [← hlen]; exact hd) hw ?_
      rw [← hlen]
      exact (gk _ _ _ _ h).1
    · split at h
      · rename_i w hw
        obtain ⟨o, ho⟩ := brc_jtg hw
        have hi2 : q.2.1 = 3 ∧ (pc : Int) + o = (q.2.2 : Int) := by
          unfold ilo at hi
          rw [ho] at hi
          simp only [Bool.and_eq_true, decide_eq_true_eq] at hi
          exact ⟨beq_eq' hi.1, hi.2⟩
        refine brc_sim hC (tgt := q.2.2) (by rw [← hi2.1]; exact hd) (fun o' ho' => ?_) hw (fun hp => ?_) (fun hp => ?_)
        · cases ho.symm.trans ho'
          exact hi2.2
        · rw [if_pos hp] at h
          exact (gk _ _ _ _ h).1
        · rw [if_neg hp] at h
          rw [← hi2.1]
          exact (gk _ _ _ _ h).1
      · exact xhp_sim ok hC gk hc hRm hF hd hi h
  · cases h
end RSIM2
theorem fin_met {p : Program} {l : Launch} {e : Env} {R : Room} {s : State} {m : MethodId} {args : Array Value} {below : List Frame} {meth : Method} {c : Code} {dA : Nat → ClassId} {D : va_G} {σ : Hp} {mt : Mt} {r : Rs} (hMt : MtOk (mnum mt)) (hmt : mtd (mnum mt) = mt) (hC : Cx dA D p R s m args meth c mt) :
    Fin p l e R s m args below meth c (MQ below (Qcc dA D σ r) args s (r.2.1 - σ.1) (r.2.2.1 - σ.2.1) (Af σ)) dA D σ mt r := by
  intro i H locs cells slots pc ls hI hd hk
  obtain ⟨rv, rσ⟩ := r
  obtain ⟨hx, hb, -, hr, hlocks, -⟩ := hC
  obtain ⟨i1, i2, i3, i4, i5, i6⟩ := hI
  dsimp only at i1 i3 i4 i5 hk ⊢
  have hc1 : cells = rσ.1 - σ.1 := by omega
  have hc2 : slots = rσ.2.1 - σ.2.1 := by omega
  have hrt := hMt.2.2.2.2.2.1
  rw [hmt] at hrt
  rw [← hc1, ← hc2]
  rcases hk with ⟨rfl, rfl, hm⟩ | ⟨x, rfl, rfl, hm⟩ | ⟨x, rfl, rfl, hm⟩ | ⟨x, rfl, rfl, hm⟩
  · have hty : rty (mnum mt) = none := by
      rcases hrt with ⟨-, h⟩ | ⟨h, -⟩ | ⟨h, -⟩ | ⟨h, -⟩ | ⟨h, -⟩
      · exact h
      all_goals (rw [hm] at h; cases h)
    exact W.vret hx hb (by rw [hr, hty]) (fun t ht hW => ⟨rfl, by rw [ht]; exact i1.moved hW.alike, i2.F ht, i3⟩) i2.2.2 hd hlocks
  · rcases hm with hm | ⟨hm, hz⟩
    · have hty : rty (mnum mt) = some .int := by
        rcases hrt with ⟨h, -⟩ | ⟨-, h⟩ | ⟨h, -⟩ | ⟨h, -⟩ | ⟨h, -⟩
        · rw [hm] at h; cases h
        · exact h
        all_goals (rw [hm] at h; cases h)
      exact W.iret hx hb (by rw [hr, hty]) (fun t ht hW => ⟨rfl, by rw [ht]; exact i1.moved hW.alike, i2.F ht, i3⟩) i2.2.2 hd hlocks
    · have hty : rty (mnum mt) = some .boolean := by
        rcases hrt with ⟨h, -⟩ | ⟨h, -⟩ | ⟨h, -⟩ | ⟨h, -⟩ | ⟨-, h⟩
        · rw [hm] at h; cases h
        · rw [hm] at h; cases h
        · rw [hm] at h; cases h
        · rw [hm] at h; cases h
        · exact h
      exact W.zret (ty := .boolean) hx hb (by rw [hr, hty]) (by rcases hz with rfl | rfl <;> rfl) (fun t ht hW => ⟨rfl, by rw [ht]; exact i1.moved hW.alike, i2.F ht, i3⟩) i2.2.2 hd hlocks
  · have hty : rty (mnum mt) = some .long := by
      rcases hrt with ⟨h, -⟩ | ⟨h, -⟩ | ⟨-, h⟩ | ⟨h, -⟩ | ⟨h, -⟩
      · rw [hm] at h; cases h
      · rw [hm] at h; cases h
      · exact h
      all_goals (rw [hm] at h; cases h)
    exact W.lret hx hb (by rw [hr, hty]) (fun t ht hW => ⟨rfl, by rw [ht]; exact i1.moved hW.alike, i2.F ht, i3⟩) i2.2.2 hd hlocks
  · have hty : (∃ C, rty (mnum mt) = some (.object C)) ∨ ∃ u, rty (mnum mt) = some (.array u) := by
      rcases hrt with ⟨h, -⟩ | ⟨h, -⟩ | ⟨h, -⟩ | ⟨-, h⟩ | ⟨h, -⟩
      · rw [hm] at h; cases h
      · rw [hm] at h; cases h
      · rw [hm] at h; cases h
      · exact h
      · rw [hm] at h; cases h
    have hv : sval (sA x) = .null ∨ ∃ a, sval (sA x) = .ref a := by
      rcases x with _ | a
      · exact Or.inl rfl
      · exact Or.inr ⟨a, rfl⟩
    rcases hty with ⟨C, hty⟩ | ⟨u, hty⟩
    · exact W.aret (v := sval (sA x)) (rt := .object C) hx hb (by rw [hr, hty]) (Or.inl ⟨_, rfl⟩) hv (fun t ht hW => ⟨rfl, by rw [ht]; exact i1.moved hW.alike, i2.F ht, i3⟩) i2.2.2 hd hlocks
    · exact W.aret (v := sval (sA x)) (rt := .array u) hx hb (by rw [hr, hty]) (Or.inr ⟨_, rfl⟩) hv (fun t ht hW => ⟨rfl, by rw [ht]; exact i1.moved hW.alike, i2.F ht, i3⟩) i2.2.2 hd hlocks
theorem lg_sl_len : ∀ (a : List sv), (lg_sl (a.map sval)).length = wsum a := by
  intro a
  induction a with
  | nil => rfl
  | cons v t ih =>
    have e : lg_sl ((v :: t).map sval) = (if (sval v).category = 2 then [Slot.val (sval v), Slot.second] else [Slot.val (sval v)]) ++ lg_sl (t.map sval) := by simp [lg_sl]
    rw [e, List.length_append, ih, wsum]
    congr 1
    rw [← sval_cat]
    by_cases h : (sval v).category = 2
    · simp [h]
    · have h0 : ((sval v).category == 2) = false := by simpa using h
      rw [h0, if_neg h]; rfl
/-- steps: what a step does with what comes behind it -/
abbrev Act : Type := Rs ⊕ (Fr ⊕ (Fr × (Rs → Option Fr)))
def ev (k : Fr → Option Rs) (a : Option Act) : Option Rs := match a with
  | none => none
  | some (.inl r) => some r
  | some (.inr (.inl f)) => k f
  | some (.inr (.inr q)) => (k q.1).bind fun r => (q.2 r).bind k
def am (σ : Hp) (a : Option Act) : Prop := match a with
  | none => True
  | some (.inl r) => σle σ r.2
  | some (.inr (.inl f)) => σle σ f.2.2.2.2
  | some (.inr (.inr q)) => q.1.2.2.2.2 = σ ∧ ∀ r f, q.2 r = some f → f.2.2.2.2 = r.2
def IsA (σ : Hp) (F : (Fr → Option Rs) → Option Rs) : Prop := ∃ a, (∀ k, F k = ev k a) ∧ am σ a
theorem σle.refl (σ : Hp) : σle σ σ := ⟨Nat.le_refl _, Nat.le_refl _⟩
theorem isA_no (σ : Hp) : IsA σ (fun _ => none) := ⟨none, fun _ => rfl, trivial⟩
theorem isA_go {σ : Hp} (f : Fr) (h : σle σ f.2.2.2.2) : IsA σ (fun k => k f) := ⟨some (.inr (.inl f)), fun _ => rfl, h⟩
theorem isA_rt {σ : Hp} (r : Rs) (h : σle σ r.2) : IsA σ (fun _ => some r) := ⟨some (.inl r), fun _ => rfl, h⟩
theorem isA_bn {σ : Hp} {α : Type} (x : Option α) (G : (Fr → Option Rs) → α → Option Rs) (h : ∀ a, x = some a → IsA σ (fun k => G k a)) : IsA σ (fun k => x.bind (G k)) := by
  cases x with
  | none => exact isA_no σ
  | some a => exact h a rfl
theorem isA_cn {σ : Hp} (b : Bool) {F G : (Fr → Option Rs) → Option Rs} (h1 : b = true → IsA σ F) (h2 : b = false → IsA σ G) : IsA σ (fun k => bif b then F k else G k) := by
  cases b
  · exact h2 rfl
  · exact h1 rfl
theorem isA_if {σ : Hp} {p : Prop} {d : Decidable p} {F G : (Fr → Option Rs) → Option Rs} (h1 : IsA σ F) (h2 : IsA σ G) : IsA σ (fun k => @ite _ p d (F k) (G k)) := by
  by_cases e : p
  · have : (fun k => @ite _ p d (F k) (G k)) = F := by funext k; exact if_pos e
    rw [this]; exact h1
  · have : (fun k => @ite _ p d (F k) (G k)) = G := by funext k; exact if_neg e
    rw [this]; exact h2
theorem isA_cl {σ : Hp} {M : Nat} {a : List sv} {α : Type} (rd : Option sv → Option α) (g : α → Hp → Fr) (hg : ∀ v s, (g v s).2.2.2.2 = s) : IsA σ (fun k => ((k (ent M a σ)).bind fun r => (rd r.1).bind fun v => some (v, r.2)).bind fun q => k (g q.1 q.2)) := by
  refine ⟨some (.inr (.inr (ent M a σ, fun r => (rd r.1).bind fun v => some (g v r.2)))), fun k => ?_, rfl, fun r f h => ?_⟩
  · show ((k (ent M a σ)).bind _).bind _ = (k (ent M a σ)).bind _
    cases k (ent M a σ) with
    | none => rfl
    | some r =>
      show ((rd r.1).bind fun v => some (v, r.2)).bind _ = ((rd r.1).bind fun v => some (g v r.2)).bind k
      cases rd r.1 with
      | none => rfl
      | some v => rfl
  · replace h := Option.bind_eq_some_iff.mp h
    obtain ⟨v, hv, h⟩ := h
    cases h
    exact hg v r.2
theorem isA_cv {σ : Hp} {M : Nat} {a : List sv} (g : Hp → Fr) (hg : ∀ s, (g s).2.2.2.2 = s) : IsA σ (fun k => (cV k M a σ).bind fun q => k (g q)) := by
  refine ⟨some (.inr (.inr (ent M a σ, fun r => (rV r.1).bind fun _ => some (g r.2)))), fun k => ?_, rfl, fun r f h => ?_⟩
  · show ((k (ent M a σ)).bind _).bind _ = (k (ent M a σ)).bind _
    cases k (ent M a σ) with
    | none => rfl
    | some r =>
      show ((rV r.1).bind fun _ => some r.2).bind _ = ((rV r.1).bind fun _ => some (g r.2)).bind k
      cases rV r.1 with
      | none => rfl
      | some v => rfl
  · replace h := Option.bind_eq_some_iff.mp h
    obtain ⟨v, hv, h⟩ := h
    cases h
    exact hg r.2
theorem cgo_act (m : Mt) (pc : Nat) (lo : Ls) (M : Nat) (a rest : List sv) (σ : Hp) : IsA σ (fun k => cgo k m pc lo M a rest σ) := by
  unfold cgo
  split
  · exact isA_cv (fun q => gto m (pc + 3) lo rest q) (fun _ => rfl)
  · exact isA_cl rI (fun v q => gto m (pc + 3) lo (sI v :: rest) q) (fun _ _ => rfl)
  · exact isA_cl rJ (fun v q => gto m (pc + 3) lo (sJ v :: rest) q) (fun _ _ => rfl)
  · exact isA_cl rA (fun v q => gto m (pc + 3) lo (sA v :: rest) q) (fun _ _ => rfl)
  · exact isA_cl rI (fun v q => gto m (pc + 3) lo (sI v :: rest) q) (fun _ _ => rfl)
  · exact isA_no σ
theorem swt_act {σ : Hp} {F : (Fr → Option Rs) → Nat → Option Rs} (hF : ∀ t, IsA σ (fun k => F k t)) (x : Int32) : ∀ (cs : List (Int32 × Nat)) (d : Nat), IsA σ (fun k => swt (F k) x cs d) := by
  intro cs
  induction cs with
  | nil => intro d; exact hF d
  | cons q t ih => intro d; exact isA_if (hF q.2) (ih d)
theorem pf_le {σ σ' : Hp} {r : Option Nat} {ci k : Nat} {v : sv} (h : pf σ r ci k v = some σ') : σle σ σ' := by
  replace h := Option.bind_eq_some_iff.mp h
  obtain ⟨q, -, h⟩ := h
  cases h
  exact ⟨Nat.le_refl _, Nat.le_refl _⟩
theorem mkA_le {σ σ' : Hp} {ak : Nat} {n : Int32} (h : mkA σ ak n = some σ') : σle σ σ' := by
  replace h := ite_some h
  obtain ⟨-, h⟩ := h
  cases h
  exact ⟨Nat.le_succ _, Nat.le_add_right _ _⟩
theorem rdf_act (m : Mt) (pc : Nat) (lo : Ls) (st : List sv) (σ : Hp) (r : Option Nat) (e : Fe) : IsA σ (fun k => rdf k m pc lo st σ r e) := by
  unfold rdf
  split
  · exact isA_bn _ _ fun v _ => isA_go _ (σle.refl σ)
  · exact isA_bn _ _ fun v _ => isA_go _ (σle.refl σ)
  · exact isA_bn _ _ fun v _ => isA_go _ (σle.refl σ)
  · exact isA_bn _ _ fun v _ => isA_go _ (σle.refl σ)
  · exact isA_no σ
theorem wrf_act (m : Mt) (pc : Nat) (lo : Ls) (st : List sv) (σ : Hp) (e : Fe) : IsA σ (fun k => wrf k m pc lo st σ e) := by
  unfold wrf
  split
  · exact isA_bn _ _ fun v _ => isA_bn _ _ fun rr _ => isA_bn _ _ fun σ' h => isA_go _ (pf_le h)
  · exact isA_bn _ _ fun v _ => isA_bn _ _ fun rr _ => isA_bn _ _ fun σ' h => isA_go _ (pf_le (ite_some h).2)
  · exact isA_bn _ _ fun v _ => isA_bn _ _ fun rr _ => isA_bn _ _ fun σ' h => isA_go _ (pf_le h)
  · exact isA_bn _ _ fun v _ => isA_bn _ _ fun rr _ => isA_bn _ _ fun σ' h => isA_go _ (pf_le h)
  · exact isA_no σ
set_option maxHeartbeats 4000000 in
theorem xhp_act (m : Mt) (pc : Nat) (lo : Ls) (st : List sv) (σ : Hp) (i : Instr) (tgt : Nat) : IsA σ (fun k => xhp k m pc lo st σ i tgt) := by
  have rl := σle.refl σ
  unfold xhp
  split
  · exact isA_go _ rl
  · exact isA_bn _ _ fun v _ => swt_act (fun t => isA_go _ rl) _ _ _
  · exact isA_bn _ _ fun v _ => isA_bn _ _ fun e _ => rdf_act _ _ _ _ _ _ _
  · exact isA_bn _ _ fun e _ => isA_cn _ (fun _ => wrf_act _ _ _ _ _ _) (fun _ => isA_no σ)
  · exact isA_bn _ _ fun v _ => isA_bn _ _ fun rr _ => isA_bn _ _ fun w _ => isA_go _ rl
  · exact isA_bn _ _ fun v _ => isA_bn _ _ fun rr _ => isA_bn _ _ fun w _ => isA_go _ rl
  · exact isA_bn _ _ fun v _ => isA_bn _ _ fun rr _ => isA_bn _ _ fun w _ => isA_go _ rl
  · exact isA_bn _ _ fun v _ => isA_bn _ _ fun rr _ => isA_bn _ _ fun w _ => isA_go _ rl
  · exact isA_bn _ _ fun rr _ => isA_bn _ _ fun w _ => isA_go _ rl
  · refine isA_bn _ _ fun v _ => isA_bn _ _ fun j _ => isA_bn _ _ fun rr _ => isA_bn _ _ fun σ' h => isA_go _ ?_
    obtain ⟨a, n, f, -, -, -, rfl⟩ := rns_I h
    exact rl
  · refine isA_bn _ _ fun v _ => isA_bn _ _ fun j _ => isA_bn _ _ fun rr _ => isA_bn _ _ fun σ' h => isA_go _ ?_
    obtain ⟨a, n, f, -, -, -, -, rfl⟩ := rns_Z h
    exact rl
  · refine isA_bn _ _ fun v _ => isA_bn _ _ fun j _ => isA_bn _ _ fun rr _ => isA_bn _ _ fun σ' h => isA_go _ ?_
    obtain ⟨a, n, f, -, -, -, rfl⟩ := rns_J h
    exact rl
  · refine isA_bn _ _ fun v _ => isA_bn _ _ fun j _ => isA_bn _ _ fun rr _ => isA_bn _ _ fun σ' h => isA_go _ ?_
    obtain ⟨a, k, n, ci, f, -, -, -, -, -, rfl⟩ := rns_A h
    exact rl
  · exact isA_bn _ _ fun ci _ => isA_go _ ⟨Nat.le_succ _, Nat.le_add_right _ _⟩
  · exact isA_bn _ _ fun n _ => isA_bn _ _ fun ak _ => isA_bn _ _ fun σ' h => isA_go _ (mkA_le h)
  · exact isA_bn _ _ fun n _ => isA_bn _ _ fun ak _ => isA_bn _ _ fun σ' h => isA_go _ (mkA_le h)
  · exact isA_bn _ _ fun M _ => isA_bn _ _ fun q _ => isA_cn _ (fun _ => cgo_act _ _ _ _ _ _ _) (fun _ => isA_no σ)
  · exact isA_bn _ _ fun M _ => isA_bn _ _ fun q _ => isA_bn _ _ fun b _ => isA_cn _ (fun _ => cgo_act _ _ _ _ _ _ _) (fun _ => isA_no σ)
  · split
    · exact isA_bn _ _ fun q _ => isA_bn _ _ fun b _ => isA_cn _ (fun _ => cgo_act _ _ _ _ _ _ _) (fun _ => isA_no σ)
    · exact isA_bn _ _ fun q _ => isA_bn _ _ fun b _ => isA_cn _ (fun _ => isA_go _ rl) (fun _ => isA_no σ)
  · refine isA_bn _ _ fun v _ => isA_cn _ (fun _ => ?_) (fun _ => isA_no σ)
    unfold rtI
    split
    · exact isA_rt _ rl
    · exact isA_if (isA_rt _ rl) (isA_no σ)
    · exact isA_no σ
  · exact isA_bn _ _ fun v _ => isA_cn _ (fun _ => isA_rt _ rl) (fun _ => isA_no σ)
  · exact isA_bn _ _ fun v _ => isA_cn _ (fun _ => isA_rt _ rl) (fun _ => isA_no σ)
  · exact isA_cn _ (fun _ => isA_rt _ rl) (fun _ => isA_no σ)
  · exact isA_no σ
theorem stp_act (f : Fr) : IsA f.2.2.2.2 (fun k => stp k f) := by
  unfold stp
  split
  · unfold exe
    split
    · exact isA_go _ (σle.refl _)
    · split
      · exact isA_if (isA_go _ (σle.refl _)) (isA_go _ (σle.refl _))
      · exact xhp_act _ _ _ _ _ _ _
  · exact isA_no _
theorem σle.trans {a b c : Hp} (h1 : σle a b) (h2 : σle b c) : σle a c := ⟨Nat.le_trans h1.1 h2.1, Nat.le_trans h1.2 h2.2⟩
theorem rnn_le : ∀ (n : Nat) (f : Fr) (r : Rs), rnn n f = some r → σle f.2.2.2.2 r.2 := by
  intro n
  induction n with
  | zero => intro f r h; cases h
  | succ n ih =>
    intro f r h
    obtain ⟨a, ha0, hm⟩ := stp_act f
    have ha : ∀ k, stp k f = ev k a := ha0
    have h : stp (rnn n) f = some r := h
    rw [ha] at h
    match a, hm, h with
    | some (.inl r0), hm, h => cases h; exact hm
    | some (.inr (.inl g)), hm, h => exact σle.trans hm (ih g r h)
    | some (.inr (.inr q)), hm, h =>
      replace h := Option.bind_eq_some_iff.mp h
      obtain ⟨r1, h1, h2⟩ := h
      replace h2 := Option.bind_eq_some_iff.mp h2
      obtain ⟨g, h3, h4⟩ := h2
      have e1 := ih _ _ h1
      have e2 := ih _ _ h4
      rw [hm.1] at e1
      rw [hm.2 _ _ h3] at e2
      exact σle.trans e1 e2
def PA (l : Launch) (dA : Nat → ClassId) (D : va_G) (n : Nat) : Prop := ∀ (p : Program) (e : Env) (R : Room) (s : State) (m : MethodId) (args : Array Value) (below : List Frame) (meth : Method) (c : Code) (Q : State → Prop) (σ0 : Hp) (mt : Mt) (r : Rs), CdOk (mnum mt) → mtd (mnum mt) = mt → Cx dA D p R s m args meth c mt → (r.2.1 ≤ R.cells + σ0.1 ∧ r.2.2.1 ≤ R.slots + σ0.2.1) → Fin p l e R s m args below meth c Q dA D σ0 mt r →
  ∀ (pc : Nat) (lo : Ls) (st : List sv) (σ : Hp), rnn n (mt, pc, lo, st, σ) = some r → WW p l e R s m args below meth c Q dA D σ0 mt pc lo st σ
def PB (l : Launch) (dA : Nat → ClassId) (D : va_G) (n : Nat) : Prop := ∀ (M : Nat) (a : List sv) (σ : Hp) (r : Rs), MtOk M → wsum a ≤ mmax (mtd M) → rnn n (ent M a σ) = some r → MetR l dA D M a σ r
theorem PA_PB {l : Launch} {dA : Nat → ClassId} {D : va_G} {n : Nat} (hA : PA l dA D n) : PB l dA D n := by
  intro M a σ r hM hw h
  have hM2 := hM
  obtain ⟨hnum, hcode, hpl, hcn, hdd, hrt, hini, hnm, hcd⟩ := hM
  refine Met.ofW (cc := byt M) (maxL := mmax (mtd M)) (ret := rty M) hpl rfl ?_
  intro p e s m args below meth c s₁ B hml hv
  obtain ⟨rfl, hH, hK⟩ := hv
  have hts := atoms_spec (ws := wsM M) B.pre
  have hown : s.vm.findClass (ynm M).cls = some m.cls := findClass_of_methodNamed B.named
  have hname : meth.name = (ynm M).name := (name_of_methodNamed B.named B.method).1
  have hl := lv_entry (a.map sval) (n := mmax (mtd M)) (by rw [lg_sl_len]; exact hw)
  rw [lg_entry_eq]
  generalize (lg_sl (a.map sval) ++ List.replicate (mmax (mtd M) - (lg_sl (a.map sval)).length) Slot.unset).toArray = ls at hl ⊢
  have hC : Cx dA D p (headSpec (wsM M) (rmM M (r.2.1 - σ.1) (r.2.2.1 - σ.2.1))).room s m (a.map sval).toArray meth c (mtd M) :=
    ⟨B.exec, by rw [hnum]; exact B.bytes, hml, by rw [hnum]; exact B.returns, B.notSynchronized, by rw [← hcn]; exact hown, fun q => by rw [hname]; exact hnm q, fun w hw => hts w (List.mem_cons_of_mem _ hw), hK, Nat.le_refl _, Nat.le_refl _⟩
  refine hA p e _ s m _ below meth c _ σ (mtd M) r (by rw [hnum]; exact hcd) (by rw [hnum]) hC ⟨by show r.2.1 ≤ (r.2.1 - σ.1) + σ.1; omega, by show r.2.2.1 ≤ (r.2.2.1 - σ.2.1) + σ.2.1; omega⟩ (fin_met (by rw [hnum]; exact hM2) (by rw [hnum]) hC) 0 (sargs 0 a) [] σ h s.heap [] 0 0 ls ?_ ⟨hH, va_S.rf, fun b d h1 h2 => Or.inl ⟨d, h1, h2⟩, Nat.zero_add _, Nat.zero_add _, hH.1⟩
  show lv_has ls (mmax (mtd M)) _
  rw [sargs_map]
  exact hl
/-- THE RUN: what our machine runs to, the real one does -/
theorem rnn_sim (ok : TbOk) (l : Launch) (dA : Nat → ClassId) (D : va_G) : ∀ n : Nat, PA l dA D n := by
  intro n
  induction n with
  | zero => intro p e R s m args below meth c Q σ0 mt r _ _ _ _ _ pc lo st σ h; cases h
  | succ n ih =>
    intro p e R s m args below meth c Q σ0 mt r hM hmt hC hR hF pc lo st σ h
    refine stp_sim ok hM hmt hC (k := rnn n) (fun pc lo st σ h => ⟨fun H locs cells slots ls hl hI => ?_, rnn_le _ _ _ h⟩) (fun M a σ r' hM' hw h => ⟨PA_PB ih M a σ r' hM' hw h, rnn_le _ _ _ h⟩) hR hF h
    exact ih p e R s m args below meth c Q σ0 mt r hM hmt hC hR hF pc _ st σ h H locs cells slots ls (sh_msk hl _) hI
