/-! Calls that change little: offset, event, linked, lose, spoil. -/
theorem MoE.of2 {I I1 : Nat → Nat → Int32} {L : Nat → Nat → Int64} {E : Ed} {N : Nat} (h : MoE I L E N) (hI : ∀ k, 2 ≤ k → k ≤ 6 → I1 k = I k) : MoE I1 L E N := by
  intro n h1 h2
  rw [hI 2 (by decide) (by decide), hI 3 (by decide) (by decide), hI 4 (by decide) (by decide), hI 5 (by decide) (by decide), hI 6 (by decide) (by decide)]
  exact h n h1 h2
/-- what event(e, what) answers -/
def evw (E : Ed) (n : Nat) (x : Int32) : Int32 := if x = 0 then nI (eK E n) else if x = 1 then nI (eS E n) else if x = 2 then nI (eT E n) else if x = 3 then eV E n else if x = 4 then eM E n else if x = 5 then nI (cnt (eP E n) 40) else if x = 6 then nI (cnt (eU E n) 40) else if x = 7 then nI (cnt (eC E n) 40) else if x = 8 then (if eG E n = 0 then 0 else 1) else -1
theorem ite9 (f : Int32 → Option Rs) (y a0 a1 a2 a3 a4 a5 a6 a7 g : Int32) : (if y = 0 then f a0 else if y = 1 then f a1 else if y = 2 then f a2 else if y = 3 then f a3 else if y = 4 then f a4 else if y = 5 then f a5 else if y = 6 then f a6 else if y = 7 then f a7 else if y = 8 then (if g = 0 then f 0 else f 1) else f (-1)) = f (if y = 0 then a0 else if y = 1 then a1 else if y = 2 then a2 else if y = 3 then a3 else if y = 4 then a4 else if y = 5 then a5 else if y = 6 then a6 else if y = 7 then a7 else if y = 8 then (if g = 0 then 0 else 1) else -1) := by
  by_cases c0 : y = 0
  · rw [if_pos c0, if_pos c0]
  · rw [if_neg c0, if_neg c0]
    by_cases c1 : y = 1
    · rw [if_pos c1, if_pos c1]
    · rw [if_neg c1, if_neg c1]
      by_cases c2 : y = 2
      · rw [if_pos c2, if_pos c2]
      · rw [if_neg c2, if_neg c2]
        by_cases c3 : y = 3
        · rw [if_pos c3, if_pos c3]
        · rw [if_neg c3, if_neg c3]
          by_cases c4 : y = 4
          · rw [if_pos c4, if_pos c4]
          · rw [if_neg c4, if_neg c4]
            by_cases c5 : y = 5
            · rw [if_pos c5, if_pos c5]
            · rw [if_neg c5, if_neg c5]
              by_cases c6 : y = 6
              · rw [if_pos c6, if_pos c6]
              · rw [if_neg c6, if_neg c6]
                by_cases c7 : y = 7
                · rw [if_pos c7, if_pos c7]
                · rw [if_neg c7, if_neg c7]
                  by_cases c8 : y = 8
                  · rw [if_pos c8, if_pos c8]
                    by_cases g0 : g = 0
                    · rw [if_pos g0, if_pos g0]
                    · rw [if_neg g0, if_neg g0]
                  · rw [if_neg c8, if_neg c8]
def lkd (E : Ed) (n k : Nat) : Int32 := ((if hb (eP E n) k = true then 1 else 0) + (if hb (eU E n) k = true then 2 else 0)) + (if hb (eC E n) k = true then 4 else 0)
theorem Hfr.frw {σ σ1 : Hp} {wi wa : Nat} {c d : Cl} (hF : Hfr σ) (h1 : σ.2.2 wi = some c) (h2 : σ.2.2 wa = some d) (hs : σ1.1 = σ.1) (h : ∀ a, a ≠ wi → a ≠ wa → σ1.2.2 a = σ.2.2 a) : Hfr σ1 := by
  intro a ha
  rw [hs] at ha
  have l1 := hF.lt h1
  have l2 := hF.lt h2
  rw [h a (by omega) (by omega)]
  exact hF a ha
theorem WiR.put {σ : Hp} {wi wa c k : Nat} {ma : Nat → Nat} {M : Nat → Ms} (h : WiR σ wi wa ma M c) (hk : k < c) (m : Ms) : WiR (hput σ (ma k) (msc m)) wi wa ma (va_up M k m) c := by
  obtain ⟨h1, ⟨f, h2, h3⟩, h4, h5, h6⟩ := h
  have hx := h4 k hk
  refine ⟨kp hx h1 (fun e => ?_), ⟨f, kp hx h2 (fun e => by cases e), h3⟩, fun j hj => ?_, h5, h6⟩
  · injection e with e
    injection e with e1 e2
    cases e1
  · by_cases e : j = k
    · subst e
      rw [va_up_self]
      exact hput_same _ _ _
    · rw [va_up_ne _ _ e]
      exact (hput_ne (fun z => e (h5 j k hj hk z))).trans (h4 j hj)
theorem Wi_take_no {σ : Hp} {wi wa c : Nat} {ma : Nat → Nat} {M : Nat → Ms} (h : WiR σ wi wa ma M c) {x : Int32} (hx : x < 0 ∨ nI c ≤ x) : cA rF nWi_take [sA (some wi), sI x] σ = some (none, σ) := by
  refine cA_of ((eWi_take _ _ σ).trans ?_)
  simp only [h.rc, Wi_find_no h hx, Option.bind_some, if_true, eWi_take_60]
section API2
variable {σ : Hp} {o b sL rm sr wi wa : Nat} {xs : Nat → Int32} {se : Nat → Nat}
theorem stp_offset (hR : Rl σ o b sL xs rm sr wi wa se) (x d : Int32) : StpR σ o b sL xs rm sr wi wa se nRm_offset nMo_offset [sI x, sI d] := by
  have hR' := hR
  obtain ⟨ma, P, E, N, Q, M, c, nw, I, L, hC, hM, hI, hS, hMs⟩ := hR'
  have hC' := hC
  obtain ⟨h1, -, -, h4, h5, h6, h7, h8, ⟨o1, -⟩, o6, o7, -⟩ := hC'
  obtain ⟨m1, m2, m3, m4, m5, m6⟩ := hM
  rcases rng 3 (by decide) x with ⟨p, hp, rfl⟩ | hx
  · by_cases hd : d < -50 ∨ 50 < d
    · refine hR.ro (v := 0) (cI_of ((eRm_offset _ _ _ σ).trans ?_)) (cI_of ((eMo_offset _ _ _ σ).trans ?_))
      · simp only [sv_in hp, Option.bind_some, if_neg i10, eRm_offset_19, rz_0]
        rcases hd with z | z
        · rw [if_pos z]
        · have n2 : ¬ d ≤ 50 := Int32.not_le.mpr z
          rw [if_neg n2]
          split <;> rfl
      · have e : (if d < -50 then (0 : Int32) else if 50 < d then 0 else 1) = 0 := by
          rcases hd with z | z
          · rw [if_pos z]
          · rw [if_pos z]
            split <;> rfl
        simp only [mo3_in hp, Option.bind_some, if_neg i10, Mo_in, e, not_true_eq_false, if_false, eMo_offset_20, rz_0]
    · have n1 : ¬ d < -50 := fun z => hd (Or.inl z)
      have n2 : ¬ 50 < d := fun z => hd (Or.inr z)
      have p2 : d ≤ 50 := Int32.not_lt.mp n2
      have hx := h4.2.1 p hp
      let q' : Sv := ((Q p).1, (Q p).2.1, (Q p).2.2.1, d)
      let σ1 : Hp := hput σ (se p) (sec q')
      have p1 : pfI σ (some (se p)) 5 3 d = some σ1 := pf_o hx
      have kk : ∀ i, i ≠ 3 → Kg i σ σ1 := fun i hi => put_kg hx (fun e => hi e.symm)
      have c1 : ClR σ1 o b sL xs rm sr wi wa se ma P E N (va_up Q p q') M c nw := hC.upd (kk 2 (by decide) _ _ rfl h1) (kk 1 (by decide)) (h4.put hp q') (h5.kg (kk 4 (by decide))) (h6.put (h6.lt hx)) (kk 5 (by decide)) (Nat.le_refl _) o7
      have m1' : MoR σ1 o (nw, nI N, nI c) I L := m1.kp (o6 p hp).put
      obtain ⟨σ2, e2, v2, f2⟩ := m1'.wI 1 (by decide) (by decide) (fun _ => rfl) (show p < mlen 1 from hp) d
      refine ⟨1, σ1, σ2, cI_of ((eRm_offset _ _ _ σ).trans ?_), cI_of ((eMo_offset _ _ _ σ1).trans ?_), c1.2.2.2.2.2.2.1, ⟨_, m1'.1⟩, ⟨ma, P, E, N, va_up Q p q', M, c, nw, va_up I 1 (va_up (I 1) p d), L, c1.fr f2, ⟨v2, m2.of2 (fun k k2 _ => va_up_ne _ _ (by omega)), m3.of (va_up_ne _ _ (by decide)), fun n a1 a2 => ?_, fun r hr => ?_, ?_⟩, hI, fun r hr => ?_, hMs⟩, ?_, ?_⟩
      · simp only [sv_in hp, Option.bind_some, if_neg i10, if_neg n1, if_pos p2, h1.f2, h4.at hp, p1, rz_1]
      · simp only [mo3_in hp, Option.bind_some, if_neg i10, Mo_in, if_neg n1, if_neg n2, if_pos i10, m1'.f1, e2, rz_1]
      · rw [va_up_ne _ _ (show 10 ≠ 1 by decide)]
        exact m4 n a1 a2
      · rw [va_up_self, va_up_ne _ _ (show 17 ≠ 1 by decide)]
        by_cases e : r = p
        · subst e
          rw [va_up_self, va_up_self]
          exact ⟨rfl, (m5 r hr).2⟩
        · rw [va_up_ne _ _ e, va_up_ne _ _ e]
          exact m5 r hr
      · obtain ⟨c24, rows⟩ := m6
        refine ⟨c24, fun j hj => ?_⟩
        obtain ⟨⟨r1, r2, r3, r4, r5⟩, r6⟩ := rows j hj
        exact ⟨⟨(congrFun (va_up_ne _ _ (show 18 ≠ 1 by decide)) j).trans r1, (congrFun (va_up_ne _ _ (show 19 ≠ 1 by decide)) j).trans r2, (congrFun (va_up_ne _ _ (show 20 ≠ 1 by decide)) j).trans r3, (congrFun (va_up_ne _ _ (show 21 ≠ 1 by decide)) j).trans r4, (congrFun (va_up_ne _ _ (show 22 ≠ 1 by decide)) j).trans r5⟩, r6⟩
      · by_cases e : r = p
        · subst e
          rw [va_up_self]
          exact hS r hr
        · rw [va_up_ne _ _ e]
          exact hS r hr
      · rw [f2.1]
        exact Nat.le_add_right _ _
      · rw [f2.2.1]
        exact Nat.le_add_right _ _
  · refine hR.ro (v := 0) (cI_of ((eRm_offset _ _ _ σ).trans ?_)) (cI_of ((eMo_offset _ _ _ σ).trans ?_))
    · simp only [sv_out hx, Option.bind_some, if_true, eRm_offset_19, rz_0]
    · simp only [mo3_out hx, Option.bind_some, if_true, eMo_offset_20, rz_0]
theorem stp_event (hR : Rl σ o b sL xs rm sr wi wa se) (x y : Int32) : StpR σ o b sL xs rm sr wi wa se nRm_event nMo_event [sI x, sI y] := by
  have hR' := hR
  obtain ⟨ma, P, E, N, Q, M, c, nw, I, L, ⟨h1, ⟨ag, gA, gT, gR, ml, pl, hv, -⟩, ⟨hN, -⟩, h4, -⟩, ⟨m1, m2, -, m4, -⟩, hI, -⟩ := hR'
  rcases evn hN x with ⟨n, n1, n2, rfl⟩ | hx
  · have nn : ¬ (some (pe P n) = none) := fun z => by cases z
    have he := hv.ev n n1 n2
    obtain ⟨e2, e3, e4, e5, e6, e7, e8, e9⟩ := m2 n n1 n2
    have e10 := m4 n n1 n2
    have lt : n < 41 := by omega
    obtain ⟨-, -, -, -, -, hp, -, -, hu, -, -, hc, -⟩ := hI.2.2.2 n n1 n2
    have bp : ∀ i, hb (eP E n) i = true → 1 ≤ i ∧ i ≤ 40 := fun i hi => ⟨(hp i hi).1, by have := (hp i hi).2; omega⟩
    have bu : ∀ i, hb (eU E n) i = true → 1 ≤ i ∧ i ≤ 40 := fun i hi => ⟨(hu i hi).1, by have := (hu i hi).2.1; omega⟩
    have bc : ∀ i, hb (eC E n) i = true → 1 ≤ i ∧ i ≤ 40 := fun i hi => ⟨(hc i hi).1, by have := (hc i hi).2.1; omega⟩
    refine hR.ro (v := evw E n y) (cI_of ((eRm_event _ _ _ σ).trans ?_)) (cI_of ((eMo_event _ _ _ σ).trans ?_))
    · simp only [h1.f0, hv.hi.rc, Hi_find hv.hi hN n1 n2, Option.bind_some, if_pos nn, he.kd, he.sd, he.tg, he.vl, he.tm, he.pv, he.au, he.ch, he.gd, Lo_bitCount _ bp, Lo_bitCount _ bu, Lo_bitCount _ bc, eRm_event_129]
      exact ite9 (fun v => some (some (sI v), σ)) y _ _ _ _ _ _ _ _ _
    · simp only [m1.rc, Mo_isE m1 rfl hN n1 n2, Option.bind_some, if_pos i10, m1.f3, m1.f4, m1.f5, m1.f6, m1.f7, m1.f8, m1.f9, m1.f10, m1.f11, m1.g2 lt, m1.g3 lt, m1.g4 lt, m1.g5 lt, m1.g6 lt, m1.g7 lt, m1.g8 lt, m1.g9 lt, m1.g10 lt, e2, e3, e4, e5, e6, e7, e8, e9, e10, Mo_size, eMo_event_139]
      exact ite9 (fun v => some (some (sI v), σ)) y _ _ _ _ _ _ _ _ _
  · refine hR.ro (v := -1) (cI_of ((eRm_event _ _ _ σ).trans ?_)) (cI_of ((eMo_event _ _ _ σ).trans ?_))
    · simp only [h1.f0, hv.hi.rc, Hi_find_no hv.hi hx, Option.bind_some, not_true_eq_false, if_false]
    · simp only [m1.rc, Mo_isN m1 rfl hx, Option.bind_some, not_true_eq_false, if_false]
theorem stp_linked (hR : Rl σ o b sL xs rm sr wi wa se) (x y : Int32) : StpR σ o b sL xs rm sr wi wa se nRm_linked nMo_linked [sI x, sI y] := by
  have hR' := hR
  obtain ⟨ma, P, E, N, Q, M, c, nw, I, L, ⟨h1, ⟨ag, gA, gT, gR, ml, pl, hv, -⟩, ⟨hN, -⟩, h4, -⟩, ⟨m1, m2, -, m4, -⟩, hI, -⟩ := hR'
  rcases evn hN x with ⟨n, n1, n2, rfl⟩ | hx
  · have nn : ¬ (some (pe P n) = none) := fun z => by cases z
    have he := hv.ev n n1 n2
    obtain ⟨e2, e3, e4, e5, e6, e7, e8, e9⟩ := m2 n n1 n2
    have lt : n < 41 := by omega
    rcases evn hN y with ⟨k, k1, k2, rfl⟩ | hy
    · have k64 : k < 64 := by omega
      refine hR.ro (v := lkd E n k) (cI_of ((eRm_linked _ _ _ σ).trans ?_)) (cI_of ((eMo_linked _ _ _ σ).trans ?_))
      · simp only [h1.f0, hv.hi.rc, Hi_find hv.hi hN n1 n2, Option.bind_some, if_neg nn, Hi_hasE hv.hi hN k1 k2, if_pos i10, he.pv, he.au, he.ch, Rm_isIn k64, eRm_linked_42, eRm_linked_58, eRm_linked_75]
        unfold lkd
        cases hb (eP E n) k <;> cases hb (eU E n) k <;> cases hb (eC E n) k <;> rfl
      · simp only [m1.rc, Mo_isE m1 rfl hN n1 n2, Mo_isE m1 rfl hN k1 k2, Option.bind_some, if_neg i10, m1.f8, m1.f9, m1.f10, m1.g7 lt, m1.g8 lt, m1.g9 lt, e7, e8, e9, Mo_has k64, eMo_linked_34, eMo_linked_52, eMo_linked_71, eMo_linked_76]
        unfold lkd
        cases hb (eP E n) k <;> cases hb (eU E n) k <;> cases hb (eC E n) k <;> rfl
    · refine hR.ro (v := 0) (cI_of ((eRm_linked _ _ _ σ).trans ?_)) (cI_of ((eMo_linked _ _ _ σ).trans ?_))
      · simp only [h1.f0, hv.hi.rc, Hi_find hv.hi hN n1 n2, Option.bind_some, if_neg nn, Hi_hasN hv.hi hy, not_true_eq_false, if_false, eRm_linked_24]
      · simp only [m1.rc, Mo_isE m1 rfl hN n1 n2, Mo_isN m1 rfl hy, Option.bind_some, if_neg i10, if_true, eMo_linked_75, eMo_linked_76]
  · refine hR.ro (v := 0) (cI_of ((eRm_linked _ _ _ σ).trans ?_)) (cI_of ((eMo_linked _ _ _ σ).trans ?_))
    · simp only [h1.f0, hv.hi.rc, Hi_find_no hv.hi hx, Option.bind_some, if_true, eRm_linked_24]
    · simp only [m1.rc, Mo_isN m1 rfl hx, Option.bind_some, if_true, eMo_linked_75, eMo_linked_76]
/-- a message is taken, on the class's side -/
theorem ClR.take {ma : Nat → Nat} {P : Pa} {E : Ed} {N c k : Nat} {Q : Nat → Sv} {M : Nat → Ms} {nw : Int32} (h : ClR σ o b sL xs rm sr wi wa se ma P E N Q M (c + 1) nw) (hk : k ≤ c) : ∃ σ1, cA rF nWi_take [sA (some wi), sI (nI k)] σ = some (some (ma k), σ1) ∧ ClR σ1 o b sL xs rm sr wi wa se (tkm ma k) P E N Q (tks M k) c nw ∧ σ1.2.2 (ma k) = some (msc (M k)) ∧ Kp22 o σ σ1 ∧ σ1.1 = σ.1 ∧ σ1.2.1 = σ.2.1 := by
  have hC := h
  obtain ⟨h1, -, -, h4, h5, h6, h7, h8, ⟨o1, o2, o3, o4, o5⟩, o6, o7, -⟩ := h
  have hc : c < 24 := by
    have := h5.2.2.2.2
    omega
  obtain ⟨σ1, e1, w1, m1, s1, s2, f1⟩ := Wi_take hc hk h5
  obtain ⟨f, hwa, -⟩ := h5.2.1
  have fw : FrW wi wa σ σ1 := fun a _ => f1 a
  have kk : ∀ i, i ≠ 4 → Kg i σ σ1 := fun i hi => fw.kg h6 h5 hi
  refine ⟨σ1, e1, hC.upd (kk 2 (by decide) _ _ rfl h1) (kk 1 (by decide)) (h4.kg (kk 3 (by decide))) w1 (h6.frw h5.1 hwa s1 f1) (kk 5 (by decide)) (by omega) (fun j hj => ?_), m1, fw.kp22 o3 o4 h8, s1, s2⟩
  unfold tkm
  split
  · exact o7 j (by omega)
  · exact o7 (j + 1) (by omega)
theorem MsI.tkz {N c k : Nat} {M : Nat → Ms} (h : MsI N M (c + 1)) : MsI N (tks M k) c := by
  intro j hj
  unfold tks
  split
  · exact h j (by omega)
  · exact h (j + 1) (by omega)
theorem stp_lose (hR : Rl σ o b sL xs rm sr wi wa se) (x : Int32) : StpR σ o b sL xs rm sr wi wa se nRm_lose nMo_lose [sI x] := by
  have hR' := hR
  obtain ⟨ma, P, E, N, Q, M, c, nw, I, L, hC, ⟨m1, m2, m3, m4, m5, m6⟩, hI, hS, hMs⟩ := hR'
  have h1 := hC.1
  have h5 := hC.2.2.2.2.1
  have hc := h5.2.2.2.2
  rcases rng c (by omega) x with ⟨k, hk, rfl⟩ | hx
  · obtain ⟨c', rfl⟩ : ∃ c', c = c' + 1 := ⟨c - 1, by omega⟩
    obtain ⟨σ1, e1, c1, q1, k22, s1, s2⟩ := hC.take (show k ≤ c' by omega)
    have m1' := m1.kp k22
    obtain ⟨σ2, I1, e2, v2, i2, j2, f2⟩ := Mo_take (show c' < 24 by omega) (show k ≤ c' by omega) rfl m1' m6
    have r18 : alI σ1 (some (o + 18)) (nI k) = some (M k).1 := (m1'.g18 (show k < 24 by omega)).trans (congrArg some (m6.2 k hk).1.1)
    have nn : ¬ (some (ma k) = none) := fun z => by cases z
    refine ⟨(M k).1, σ1, σ2, cI_of ((eRm_lose _ _ σ).trans ?_), cI_of ((eMo_lose _ _ σ1).trans ?_), c1.2.2.2.2.2.2.1, ⟨_, m1'.1⟩, ⟨tkm ma k, P, E, N, Q, tks M k, c', nw, I1, L, c1.fr f2, ⟨v2, m2.of2 (fun k _ k6 => i2 k (by omega)), m3.of (i2 11 (by decide)), fun n a1 a2 => ?_, fun r hr => ?_, j2⟩, hI, hS, hMs.tkz⟩, ?_, ?_⟩
    · simp only [h1.f3, h5.rc, e1, Option.bind_some, if_pos nn, me_0 q1, eRm_lose_21]
    · simp only [m1'.fly, Mo_inw (show c' + 1 ≤ 40 by omega) hk, Option.bind_some, if_pos i10, m1'.f20, r18, m1'.rc, e2]
    · rw [i2 10 (by decide)]
      exact m4 n a1 a2
    · rw [i2 1 (by decide), i2 17 (by decide)]
      exact m5 r hr
    · rw [f2.1, s1]
      exact Nat.le_add_right _ _
    · rw [f2.2.1, s2]
      exact Nat.le_add_right _ _
  · refine hR.ro (v := -1) (cI_of ((eRm_lose _ _ σ).trans ?_)) (cI_of ((eMo_lose _ _ σ).trans ?_))
    · simp only [h1.f3, h5.rc, Wi_take_no h5 hx, Option.bind_some, not_true_eq_false, if_false, eRm_lose_21]
    · simp only [m1.fly, Mo_out (show c ≤ 40 by omega) hx, Option.bind_some, not_true_eq_false, if_false]
theorem stp_spoil (hR : Rl σ o b sL xs rm sr wi wa se) (x : Int32) : StpR σ o b sL xs rm sr wi wa se nRm_spoil nMo_spoil [sI x] := by
  have hR' := hR
  obtain ⟨ma, P, E, N, Q, M, c, nw, I, L, hC, ⟨m1, m2, m3, m4, m5, m6⟩, hI, hS, hMs⟩ := hR'
  have hC' := hC
  obtain ⟨h1, -, -, h4, h5, h6, h7, h8, ⟨o1, o2, o3, o4, o5⟩, o6, o7, -⟩ := hC'
  have hc := h5.2.2.2.2
  rcases rng c (by omega) x with ⟨k, hk, rfl⟩ | hx
  · have nn : ¬ (some (ma k) = none) := fun z => by cases z
    have hx := h5.2.2.1 k hk
    have k24 : k < 24 := by omega
    obtain ⟨⟨r1, r2, r3, r4, r5⟩, -⟩ := m6.2 k hk
    have r18 : alI σ (some (o + 18)) (nI k) = some (M k).1 := (m1.g18 k24).trans (congrArg some r1)
    have r22 : alZ σ (some (o + 22)) (nI k) = some (M k).2.2.2.2 := (m1.g22 k24).trans (congrArg some r5)
    by_cases w2 : (M k).1 = 2
    · refine hR.ro (v := 0) (cI_of ((eRm_spoil _ _ σ).trans ?_)) (cI_of ((eMo_spoil _ _ σ).trans ?_))
      · simp only [h1.f3, h5.rc, Wi_find h5 hk, Option.bind_some, if_neg nn, me_0 hx, if_pos w2, eRm_spoil_28, rz_0]
      · simp only [m1.fly, Mo_inw (show c ≤ 40 by omega) hk, Option.bind_some, if_neg i10, m1.f20, r18, if_pos w2, eMo_spoil_33, rz_0]
    · by_cases w0 : (M k).2.2.2.2 = 0
      · let m' : Ms := ((M k).1, (M k).2.1, (M k).2.2.1, (M k).2.2.2.1, 1)
        let σ1 : Hp := hput σ (ma k) (msc m')
        have p1 : pfZ σ (some (ma k)) 3 4 (1 : Int32) = some σ1 := by
          unfold pfZ
          rw [if_pos (show (1 : Int32) = 0 ∨ (1 : Int32) = 1 from Or.inr rfl)]
          exact pf_o hx
        have kk : ∀ i, i ≠ 4 → Kg i σ σ1 := fun i hi => put_kg hx (fun e => hi e.symm)
        have c1 : ClR σ1 o b sL xs rm sr wi wa se ma P E N Q (va_up M k m') c nw := hC.upd (kk 2 (by decide) _ _ rfl h1) (kk 1 (by decide)) (h4.kg (kk 3 (by decide))) (h5.put hk m') (h6.put (h6.lt hx)) (kk 5 (by decide)) (Nat.le_refl _) o7
        have m1' : MoR σ1 o (nw, nI N, nI c) I L := m1.kp (o7 k hk).put
        obtain ⟨σ2, e2, v2, f2⟩ := m1'.wZ 22 (by decide) (by decide) (fun _ => rfl) (show k < mlen 22 from k24) (x := 1) (Or.inr rfl)
        have r18' : alI σ1 (some (o + 18)) (nI k) = some (M k).1 := (m1'.g18 k24).trans (congrArg some r1)
        have r22' : alZ σ1 (some (o + 22)) (nI k) = some (M k).2.2.2.2 := (m1'.g22 k24).trans (congrArg some r5)
        refine ⟨1, σ1, σ2, cI_of ((eRm_spoil _ _ σ).trans ?_), cI_of ((eMo_spoil _ _ σ1).trans ?_), c1.2.2.2.2.2.2.1, ⟨_, m1'.1⟩, ⟨ma, P, E, N, Q, va_up M k m', c, nw, va_up I 22 (va_up (I 22) k 1), L, c1.fr f2, ⟨v2, m2.of2 (fun k _ _ => va_up_ne _ _ (by omega)), m3.of (va_up_ne _ _ (by decide)), fun n a1 a2 => ?_, fun r hr => ?_, ⟨m6.1, fun j hj => ?_⟩⟩, hI, hS, fun j hj => ?_⟩, ?_, ?_⟩
        · simp only [h1.f3, h5.rc, Wi_find h5 hk, Option.bind_some, if_neg nn, me_0 hx, if_neg w2, me_4 hx, if_pos w0, p1, rz_1]
        · simp only [m1'.fly, Mo_inw (show c ≤ 40 by omega) hk, Option.bind_some, if_neg i10, m1'.f20, r18', if_neg w2, m1'.f24, r22', if_pos w0, e2, rz_1]
        · rw [va_up_ne _ _ (show 10 ≠ 22 by decide)]
          exact m4 n a1 a2
        · rw [va_up_ne _ _ (show 1 ≠ 22 by decide), va_up_ne _ _ (show 17 ≠ 22 by decide)]
          exact m5 r hr
        · obtain ⟨⟨q1, q2, q3, q4, q5⟩, q6⟩ := m6.2 j hj
          by_cases e : j = k
          · subst e
            rw [va_up_self]
            refine ⟨⟨(congrFun (va_up_ne _ _ (show 18 ≠ 22 by decide)) j).trans q1, (congrFun (va_up_ne _ _ (show 19 ≠ 22 by decide)) j).trans q2, (congrFun (va_up_ne _ _ (show 20 ≠ 22 by decide)) j).trans q3, (congrFun (va_up_ne _ _ (show 21 ≠ 22 by decide)) j).trans q4, ?_⟩, Or.inr rfl⟩
            rw [va_up_self, va_up_self]
          · rw [va_up_ne _ _ e]
            refine ⟨⟨(congrFun (va_up_ne _ _ (show 18 ≠ 22 by decide)) j).trans q1, (congrFun (va_up_ne _ _ (show 19 ≠ 22 by decide)) j).trans q2, (congrFun (va_up_ne _ _ (show 20 ≠ 22 by decide)) j).trans q3, (congrFun (va_up_ne _ _ (show 21 ≠ 22 by decide)) j).trans q4, ?_⟩, q6⟩
            rw [va_up_self, va_up_ne _ _ e]
            exact q5
        · by_cases e : j = k
          · subst e
            rw [va_up_self]
            obtain ⟨t1, t2, t3, t4, -⟩ := hMs j hj
            exact ⟨t1, t2, t3, t4, Or.inr rfl⟩
          · rw [va_up_ne _ _ e]
            exact hMs j hj
        · rw [f2.1]
          exact Nat.le_add_right _ _
        · rw [f2.2.1]
          exact Nat.le_add_right _ _
      · refine hR.ro (v := 0) (cI_of ((eRm_spoil _ _ σ).trans ?_)) (cI_of ((eMo_spoil _ _ σ).trans ?_))
        · simp only [h1.f3, h5.rc, Wi_find h5 hk, Option.bind_some, if_neg nn, me_0 hx, if_neg w2, me_4 hx, if_neg w0, eRm_spoil_28, rz_0]
        · simp only [m1.fly, Mo_inw (show c ≤ 40 by omega) hk, Option.bind_some, if_neg i10, m1.f20, r18, if_neg w2, m1.f24, r22, if_neg w0, eMo_spoil_33, rz_0]
  · refine hR.ro (v := 0) (cI_of ((eRm_spoil _ _ σ).trans ?_)) (cI_of ((eMo_spoil _ _ σ).trans ?_))
    · simp only [h1.f3, h5.rc, Wi_find_no h5 hx, Option.bind_some, if_true, eRm_spoil_28, rz_0]
    · simp only [m1.fly, Mo_out (show c ≤ 40 by omega) hx, Option.bind_some, if_true, eMo_spoil_33, rz_0]
end API2
