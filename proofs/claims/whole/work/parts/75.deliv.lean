/-! deliver. -/
def pnd (q : Sv) (e : Nat) : Sv := (q.1 ||| bitN e, q.2.1, q.2.2.1, q.2.2.2)
theorem stn_pnd {q : Sv} {e : Nat} (he : e < 64) (hs : sld q e = false) (n : Nat) : stn (pnd q e) n = if n = e then 1 else stn q n := by
  unfold sld at hs
  rw [Bool.or_eq_false_iff] at hs
  unfold stn pnd
  show (if hb q.2.1 n = true then (2 : Int32) else if hb q.2.2.1 n = true then 3 else if hb (q.1 ||| bitN e) n = true then 1 else 0) = _
  by_cases c : n = e
  · subst c
    rw [if_pos rfl, hs.1, hs.2, hb_or, hb_bit he]
    simp
  · rw [if_neg c, hb_or, hb_bit he, decide_eq_false c, Bool.or_false]
theorem SvI.pnd {E : Ed} {N e : Nat} {q : Sv} (h : SvI E N q) (hN : N ≤ 40) (h1 : 1 ≤ e) (h2 : e ≤ N) (hs : sld q e = false) : SvI E N (pnd q e) := by
  obtain ⟨⟨a, b, c⟩, d⟩ := h
  refine ⟨⟨fun n hn => ?_, b, c⟩, d⟩
  replace hn : hb (q.1 ||| bitN e) n = true := hn
  rw [hb_or, hb_bit (by omega), Bool.or_eq_true] at hn
  show _ ∧ sld q n = false
  rcases hn with z | z
  · exact a n z
  · rw [of_decide_eq_true z]
    exact ⟨⟨h1, h2⟩, hs⟩
theorem lkE_held {E : Ed} {N : Nat} (i : Nat) : ∀ (d : Nat) (q : Sv) (e : Nat), hb q.2.1 i = true → hb (lkE E N d q e).2.1 i = true := by
  intro d
  induction d with
  | zero => intro q e h; exact h
  | succ d ih =>
    intro q e h
    show hb (if e = 0 then q else lkE E N d (stl q e (eG E e)) (frd E (stl q e (eG E e)) 1 N)).2.1 i = true
    split
    · exact h
    · refine ih _ _ ?_
      unfold stl
      split
      · exact h
      · show hb (q.2.1 ||| bitN e) i = true
        rw [hb_or, h]
        rfl
section DLV
variable {o b sL rm sr wi wa N : Nat} {xs : Nat → Int32} {se ma : Nat → Nat} {P : Pa} {E : Ed} {Q : Nat → Sv} {nw : Int32}
theorem ClR.srv {σ : Hp} {M : Nat → Ms} {c p : Nat} (h : ClR σ o b sL xs rm sr wi wa se ma P E N Q M c nw) (hp : p < 3) (q : Sv) : ClR (hput σ (se p) (sec q)) o b sL xs rm sr wi wa se ma P E N (va_up Q p q) M c nw := by
  have hC := h
  obtain ⟨h1, -, -, h4, h5, h6, h7, h8, -, o6, o7, -⟩ := h
  have hx := h4.2.1 p hp
  have kk : ∀ i, i ≠ 3 → Kg i σ (hput σ (se p) (sec q)) := fun i hi => put_kg hx (fun e => hi e.symm)
  exact hC.upd (kk 2 (by decide) _ _ rfl h1) (kk 1 (by decide)) (h4.put hp q) (h5.kg (kk 4 (by decide))) (h6.put (h6.lt hx)) (kk 5 (by decide)) (Nat.le_refl _) o7
theorem MoA.pnd {σ : Hp} {I : Nat → Nat → Int32} {L : Nat → Nat → Int64} {M : Nat → Ms} {c p e : Nat} (h : MoA σ o E N Q M c nw I L) (hp : p < 3) (h1 : 1 ≤ e) (h2 : e < 41) (hs : sld (Q p) e = false) : ∃ σ1 I1, asI σ (some (o + 17)) (((41 : Int32) * nI p) + nI e) (1 : Int32) = some σ1 ∧ MoA σ1 o E N (va_up Q p (pnd (Q p) e)) M c nw I1 L ∧ FrM o σ σ1 := by
  obtain ⟨m1, m2, m3, m4, m5, m6⟩ := h
  obtain ⟨σ1, e1, v1, f1⟩ := m1.wI 17 (by decide) (by decide) (fun _ => rfl) (show 41 * p + e < mlen 17 from (show 41 * p + e < 123 by omega)) 1
  rw [nI41]
  refine ⟨σ1, _, e1, ⟨v1, m2.of2 (fun k _ k6 => va_up_ne _ _ (by omega)), m3.of (va_up_ne _ _ (by decide)), fun n a1 a2 => ?_, fun r hr => ?_, ⟨m6.1, fun j hj => ?_⟩⟩, f1⟩
  · rw [va_up_ne _ _ (show 10 ≠ 17 by decide)]
    exact m4 n a1 a2
  · rw [va_up_ne _ _ (show 1 ≠ 17 by decide), va_up_self]
    by_cases c1 : r = p
    · subst c1
      rw [va_up_self]
      refine ⟨(m5 r hr).1, fun x x1 x2 => ?_⟩
      rw [stn_pnd (by omega) hs]
      by_cases c2 : x = e
      · rw [if_pos c2, c2, va_up_self]
      · rw [if_neg c2, va_up_ne _ _ (by omega)]
        exact (m5 r hr).2 x x1 x2
    · rw [va_up_ne _ _ c1]
      refine ⟨(m5 r hr).1, fun x x1 x2 => ?_⟩
      rw [va_up_ne _ _ (by omega)]
      exact (m5 r hr).2 x x1 x2
  · obtain ⟨⟨q1, q2, q3, q4, q5⟩, q6⟩ := m6.2 j hj
    exact ⟨⟨(congrFun (va_up_ne _ _ (show 18 ≠ 17 by decide)) j).trans q1, (congrFun (va_up_ne _ _ (show 19 ≠ 17 by decide)) j).trans q2, (congrFun (va_up_ne _ _ (show 20 ≠ 17 by decide)) j).trans q3, (congrFun (va_up_ne _ _ (show 21 ≠ 17 by decide)) j).trans q4, (congrFun (va_up_ne _ _ (show 22 ≠ 17 by decide)) j).trans q5⟩, q6⟩
theorem MoA.look {σ : Hp} {I : Nat → Nat → Int32} {L : Nat → Nat → Int64} {M : Nat → Ms} {c p e : Nat} (h : MoA σ o E N Q M c nw I L) (hN : N ≤ 40) (hP : Pok E N) (hp : p < 3) (h1 : 1 ≤ e) (h2 : e ≤ N) (hS : SvI E N (Q p)) : ∃ σ1 I1, cV rF nMo_look [sA (some o), sI (nI p), sI (nI e)] σ = some σ1 ∧ MoA σ1 o E N (va_up Q p (lkE E N 41 (Q p) e)) M c nw I1 L ∧ SvI E N (lkE E N 41 (Q p) e) ∧ FrM o σ σ1 := by
  obtain ⟨m1, m2, m3, m4, m5, m6⟩ := h
  obtain ⟨σ1, I1, e1, v1, i1, s1, k1, f1⟩ := Mo_look hN hp hP rfl h1 h2 m1 m2 m5 hS.1 m4
  refine ⟨σ1, I1, e1, ⟨v1, m2.of2 (fun k _ k6 => i1 k (by omega)), m3.of (i1 11 (by decide)), fun n a1 a2 => ?_, s1, ⟨m6.1, fun j hj => ?_⟩⟩, ⟨k1, lkE_held 1 _ _ _ hS.2.1, lkE_held 2 _ _ _ hS.2.2⟩, f1⟩
  · rw [i1 10 (by decide)]
    exact m4 n a1 a2
  · unfold Row
    rw [i1 18 (by decide), i1 19 (by decide), i1 20 (by decide), i1 21 (by decide), i1 22 (by decide)]
    exact m6.2 j hj
theorem Mo_come_31 (hN : N ≤ 40) {p e : Nat} (t : Int32) (hp : p < 3) (e1 : 1 ≤ e) (e2 : e ≤ N) : ∀ (d n : Nat) (σ : Hp) (I : Nat → Nat → Int32) (L : Nat → Nat → Int64) (q : Mq), 1 ≤ n → n + d = N + 1 → MoA σ o E N Q q.1 q.2 nw I L → ∃ σ1 I1, fMo_come_31 (some o) (nI p) (nI e) t (nI n) σ = some (none, σ1) ∧ MoA σ1 o E N Q (sda (uns (Q p) (eP E e)) 2 (nI p) t n d q).1 (sda (uns (Q p) (eP E e)) 2 (nI p) t n d q).2 nw I1 L ∧ FrM o σ σ1 := by
  intro d
  induction d with
  | zero =>
    intro n σ I L q h1 hn h
    have m1 := h.1
    have : n = N + 1 := by omega
    subst this
    refine ⟨σ, I, ?_, h, FrM.rf _ _⟩
    rw [eMo_come_31]
    simp only [m1.made, Option.bind_some, if_pos (nN1 hN)]
  | succ d ih =>
    intro n σ I L q h1 hn h
    have m1 := h.1
    have m5 := h.2.2.2.2.1
    have hle : n ≤ N := by omega
    have n64 : n < 64 := by omega
    have p7 := (h.2.1 e e1 e2).2.2.2.2.2.1
    have hu := hb_uns (Q p) (eP E e) n
    rw [eMo_come_31]
    simp only [m1.made, Option.bind_some, if_neg (nN hN hle), m1.f8, m1.g7 (show e < 41 by omega), p7, Mo_has n64, eMo_come_73, nI1]
    by_cases c : hb (eP E e) n = true
    · rw [if_pos c, if_neg i10]
      simp only [m1.rc, Mo_known m1 m5 hp h1 (show n < 41 by omega), Option.bind_some]
      by_cases c2 : sld (Q p) n = true
      · have c3 : ¬ hb (uns (Q p) (eP E e)) n = true := by
          rw [hu, c, c2]
          decide
        have e : sda (uns (Q p) (eP E e)) 2 (nI p) t n (d + 1) q = sda (uns (Q p) (eP E e)) 2 (nI p) t (n + 1) d q := by
          show sda _ 2 (nI p) t (n + 1) d (if hb (uns (Q p) (eP E e)) n = true then _ else q) = _
          rw [if_neg c3]
        rw [e, if_pos c2, if_pos i10]
        exact ih (n + 1) σ I L q (by omega) (by omega) h
      · have c3 : hb (uns (Q p) (eP E e)) n = true := by
          rw [hu, c]
          simpa using c2
        have e : sda (uns (Q p) (eP E e)) 2 (nI p) t n (d + 1) q = sda (uns (Q p) (eP E e)) 2 (nI p) t (n + 1) d (sd1 q (2, nI n, nI p, t, 0)) := by
          show sda _ 2 (nI p) t (n + 1) d (if hb (uns (Q p) (eP E e)) n = true then _ else q) = _
          rw [if_pos c3]
        obtain ⟨σ1, I1, r1, c1, f1⟩ := h.send 2 (nI n) (nI p) t
        obtain ⟨σ2, I2, r2, v2, f2⟩ := ih (n + 1) σ1 I1 L _ (by omega) (by omega) c1
        rw [e, if_neg c2]
        refine ⟨σ2, I2, ?_, v2, f1.tr f2⟩
        rw [if_neg (fun z => z rfl)]
        simp only [r1, Option.bind_some]
        exact r2
    · have c3 : ¬ hb (uns (Q p) (eP E e)) n = true := by
        rw [hu]
        simp [c]
      have e : sda (uns (Q p) (eP E e)) 2 (nI p) t n (d + 1) q = sda (uns (Q p) (eP E e)) 2 (nI p) t (n + 1) d q := by
        show sda _ 2 (nI p) t (n + 1) d (if hb (uns (Q p) (eP E e)) n = true then _ else q) = _
        rw [if_neg c3]
      rw [e, if_neg c, if_pos rfl]
      exact ih (n + 1) σ I L q (by omega) (by omega) h
/-- a message and the cells of the class lie apart -/
theorem msc_kp {σ σ1 : Hp} {M : Nat → Ms} {c x : Nat} {m : Ms} (h : ClR σ o b sL xs rm sr wi wa se ma P E N Q M c nw) (hx : σ.2.2 x = some (msc m)) (f : FrW wi wa σ σ1) : σ1.2.2 x = some (msc m) := by
  obtain ⟨-, -, -, -, h5, h6, -⟩ := h
  obtain ⟨w1, ⟨g, w2, -⟩, -⟩ := h5
  refine (f x (h6.lt hx) (fun e => ?_) (fun e => ?_)).trans hx
  · subst e
    rw [hx] at w1
    injection w1 with w
    injection w with w
    injection w with w a
    cases w
  · subst e
    rw [hx] at w2
    cases w2
theorem sec_ms {q : Sv} {m : Ms} : msc m ≠ sec q := fun e => by
  injection e with e
  injection e with e1 e2
  cases e1
section RCV
variable {σ : Hp} {M : Nat → Ms} {c x e p r : Nat} {k sp : Int32}
theorem Rm_receive_A (h : ClR σ o b sL xs rm sr wi wa se ma P E N Q M c nw) (hx : σ.2.2 x = some (msc (k, nI e, nI r, nI p, sp))) (h1 : 1 ≤ e) (h2 : e ≤ N) (hp : p < 3) (ha : sp ≠ 0 ∨ sld (Q p) e = true) : cV rF nRm_receiveEvent [sA (some rm), sA (some x)] σ = some σ := by
  obtain ⟨r1, ⟨ag, gA, gT, gR, ml, pl, hv, -⟩, ⟨hN, -⟩, h4, -⟩ := h
  have nn : ¬ (some (pe P e) = none) := fun z => by cases z
  have e64 : e < 64 := by omega
  refine cV_of ((eRm_receiveEvent _ _ σ).trans ?_)
  have g3 := me_3 hx
  have g1 := me_1 hx
  have g4 := me_4 hx
  simp only [r1.f2, g3, h4.at hp, r1.f0, g1, hv.hi.rc, Hi_find hv.hi hN h1 h2, Option.bind_some, g4, eRm_receiveEvent_44]
  by_cases c0 : sp = 0
  · have n0 : ¬ ¬ sp = 0 := fun z => z c0
    rw [if_neg n0, if_neg nn]
    rcases ha with z | z
    · exact absurd c0 z
    · have se5 := se_rc (h4.2.1 p hp) [sI (nI e)]
      have hz : (hb (Q p).2.1 e || hb (Q p).2.2.1 e) = true := z
      simp only [se5, Se_isSettled (h4.2.1 p hp) e64, Option.bind_some]
      rw [if_pos hz, if_neg i10]
  · rw [if_pos c0]
theorem Rm_receive_B (h : ClR σ o b sL xs rm sr wi wa se ma P E N Q M c nw) (hx : σ.2.2 x = some (msc (k, nI e, nI r, nI p, 0))) (h1 : 1 ≤ e) (h2 : e ≤ N) (hp : p < 3) (hs : sld (Q p) e = false) (hu : lg_cmp (uns (Q p) (eP E e)) 0 = 0) : cV rF nRm_receiveEvent [sA (some rm), sA (some x)] σ = some (hput σ (se p) (sec (lkE E N 41 (Q p) e))) := by
  obtain ⟨r1, ⟨ag, gA, gT, gR, ml, pl, hv, -⟩, ⟨hN, -⟩, h4, -⟩ := h
  have nn : ¬ (some (pe P e) = none) := fun z => by cases z
  have e64 : e < 64 := by omega
  refine cV_of ((eRm_receiveEvent _ _ σ).trans ?_)
  have g3 := me_3 hx
  have g1 := me_1 hx
  have g4 := me_4 hx
  have se5 := se_rc (h4.2.1 p hp) [sI (nI e)]
  have hz : ¬ (hb (Q p).2.1 e || hb (Q p).2.2.1 e) = true := fun z => by
    have : sld (Q p) e = true := z
    rw [hs] at this
    cases this
  have n0 : ¬ ¬ ((0 : Int32) = 0) := fun z => z rfl
  have n1 : ¬ ¬ lg_cmp (eP E e &&& (((Q p).2.1 ||| (Q p).2.2.1) ^^^ (-1))) 0 = 0 := fun z => z hu
  have lk : cV rF nRm_lookAt [sA (some rm), sA (some (se p)), sA (some (pe P e))] σ = some (hput σ (se p) (sec (lkE E N 41 (Q p) e))) := by
    have := Rm_lookAt hN h2 r1 hv.hi hv.ev (h4.2.1 p hp)
    rw [er_n (show e ≠ 0 by omega)] at this
    exact this
  simp only [r1.f2, g3, h4.at hp, r1.f0, g1, hv.hi.rc, Hi_find hv.hi hN h1 h2, Option.bind_some, g4, eRm_receiveEvent_44, not_true_eq_false, if_false]
  rw [if_neg nn]
  simp only [se5, Se_isSettled (h4.2.1 p hp) e64, Option.bind_some]
  rw [if_neg hz, if_pos rfl]
  simp only [(hv.ev e h1 h2).pv, se_rc (h4.2.1 p hp), Se_unsettled (h4.2.1 p hp), Option.bind_some]
  rw [if_neg n1]
  simp only [r1.rc, lk, Option.bind_some, eRm_receiveEvent_102]
theorem Rm_receive_C (h : ClR σ o b sL xs rm sr wi wa se ma P E N Q M c nw) (hx : σ.2.2 x = some (msc (k, nI e, nI r, nI p, 0))) (h1 : 1 ≤ e) (h2 : e ≤ N) (hp : p < 3) (hs : sld (Q p) e = false) (hu : ¬ lg_cmp (uns (Q p) (eP E e)) 0 = 0) : ∃ σ1 ma1, cV rF nRm_receiveEvent [sA (some rm), sA (some x)] σ = some σ1 ∧ ClR σ1 o b sL xs rm sr wi wa se ma1 P E N (va_up Q p (pnd (Q p) e)) (sda (uns (Q p) (eP E e)) 2 (nI p) (nI r) 1 N (M, c)).1 (sda (uns (Q p) (eP E e)) 2 (nI p) (nI r) 1 N (M, c)).2 nw ∧ σ1.2.2 x = some (msc (k, nI e, nI r, nI p, 0)) ∧ Kp22 o σ σ1 ∧ σ1.1 ≤ σ.1 + 24 ∧ σ1.2.1 ≤ σ.2.1 + 120 := by
  have hC := h
  obtain ⟨r1, ⟨ag, gA, gT, gR, ml, pl, hv, -⟩, ⟨hN, -⟩, h4, h5, h6, h7, h8, ⟨o1, o2, o3, o4, o5⟩, o6, -⟩ := h
  have nn : ¬ (some (pe P e) = none) := fun z => by cases z
  have e64 : e < 64 := by omega
  have hq := h4.2.1 p hp
  let σ0 : Hp := hput σ (se p) (sec (pnd (Q p) e))
  have c0 : ClR σ0 o b sL xs rm sr wi wa se ma P E N (va_up Q p (pnd (Q p) e)) M c nw := hC.srv hp _
  have p0 : pfJ σ (some (se p)) 5 0 ((Q p).1 ||| bitN e) = some σ0 := pf_o hq
  have hx0 : σ0.2.2 x = some (msc (k, nI e, nI r, nI p, 0)) := kp hq hx sec_ms
  obtain ⟨σ1, ma1, e1, c1, f1, l1, s1, s2⟩ := Rm_sendAll (uns (Q p) (eP E e)) 2 (nI p) (nI r) (q := (M, c)) c0
  have c24 := c1.2.2.2.2.1.2.2.2.2
  refine ⟨σ1, ma1, cV_of ((eRm_receiveEvent _ _ σ).trans ?_), c1, msc_kp c0 hx0 f1, ((o6 p hp).put).tr (f1.kp22 o3 o4 h8), ?_, ?_⟩
  · have g3 := me_3 hx
    have g1 := me_1 hx
    have g4 := me_4 hx
    have g3' := me_3 hx0
    have g2' := me_2 hx0
    have se5 := se_rc (h4.2.1 p hp) [sI (nI e)]
    have hz : ¬ (hb (Q p).2.1 e || hb (Q p).2.2.1 e) = true := fun z => by
      have : sld (Q p) e = true := z
      rw [hs] at this
      cases this
    have n0 : ¬ ¬ ((0 : Int32) = 0) := fun z => z rfl
    have n1 : ¬ lg_cmp (eP E e &&& (((Q p).2.1 ||| (Q p).2.2.1) ^^^ (-1))) 0 = 0 := hu
    have bt : cJ rF nRm_bit [sI (nI e)] σ = some (bitN e, σ) := Rm_bit e σ
    have e1' : cV rF nRm_sendAll [sA (some rm), sI (2 : Int32), sJ (eP E e &&& (((Q p).2.1 ||| (Q p).2.2.1) ^^^ (-1))), sI (nI p), sI (nI r)] σ0 = some σ1 := e1
    simp only [r1.f2, g3, h4.at hp, r1.f0, g1, hv.hi.rc, Hi_find hv.hi hN h1 h2, Option.bind_some, g4, eRm_receiveEvent_44, not_true_eq_false, if_false]
    rw [if_neg nn]
    simp only [se5, Se_isSettled (h4.2.1 p hp) e64, Option.bind_some]
    rw [if_neg hz, if_pos rfl]
    simp only [(hv.ev e h1 h2).pv, se_rc (h4.2.1 p hp), Se_unsettled (h4.2.1 p hp), Option.bind_some]
    rw [if_pos n1]
    simp only [se_f0 hq, (hv.ev e h1 h2).num, bt, p0, g3', g2', c0.1.rc, e1', Option.bind_some, eRm_receiveEvent_102]
  · have : σ0.1 = σ.1 := rfl
    have s1' : σ1.1 + c = σ0.1 + (sda (uns (Q p) (eP E e)) 2 (nI p) (nI r) 1 N (M, c)).2 := s1
    omega
  · have : σ0.2.1 = σ.2.1 := rfl
    have s2' : σ1.2.1 + 5 * c = σ0.2.1 + 5 * (sda (uns (Q p) (eP E e)) 2 (nI p) (nI r) 1 N (M, c)).2 := s2
    omega
end RCV
theorem Rm_answer_no {σ : Hp} {M : Nat → Ms} {c x e p r : Nat} {k sp : Int32} (h : ClR σ o b sL xs rm sr wi wa se ma P E N Q M c nw) (hx : σ.2.2 x = some (msc (k, nI e, nI r, nI p, sp))) (h2 : e ≤ N) (hp : p < 3) (hs : sld (Q p) e = false) : cV rF nRm_answerWant [sA (some rm), sA (some x)] σ = some σ := by
  obtain ⟨r1, -, ⟨hN, -⟩, h4, -⟩ := h
  have g3 := me_3 hx
  have g1 := me_1 hx
  have hz : ¬ (hb (Q p).2.1 e || hb (Q p).2.2.1 e) = true := fun z => by
    have : sld (Q p) e = true := z
    rw [hs] at this
    cases this
  refine cV_of ((eRm_answerWant _ _ σ).trans ?_)
  simp only [r1.f2, g3, h4.at hp, g1, se_rc (h4.2.1 p hp), Se_isSettled (h4.2.1 p hp) (show e < 64 by omega), Option.bind_some, eRm_answerWant_39]
  rw [if_neg hz, if_pos rfl]
theorem Rm_answer_ok {σ : Hp} {M : Nat → Ms} {c x e p r : Nat} {k sp : Int32} (h : ClR σ o b sL xs rm sr wi wa se ma P E N Q M c nw) (hx : σ.2.2 x = some (msc (k, nI e, nI r, nI p, sp))) (h2 : e ≤ N) (hp : p < 3) (hs : sld (Q p) e = true) : ∃ σ1 ma1, cV rF nRm_answerWant [sA (some rm), sA (some x)] σ = some σ1 ∧ ClR σ1 o b sL xs rm sr wi wa se ma1 P E N Q (sd1 (M, c) (1, nI e, nI p, nI r, 0)).1 (sd1 (M, c) (1, nI e, nI p, nI r, 0)).2 nw ∧ σ1.2.2 x = some (msc (k, nI e, nI r, nI p, sp)) ∧ Kp22 o σ σ1 ∧ σ1.1 ≤ σ.1 + 24 ∧ σ1.2.1 ≤ σ.2.1 + 120 := by
  have hC := h
  obtain ⟨r1, -, ⟨hN, -⟩, h4, h5, h6, h7, h8, ⟨o1, o2, o3, o4, o5⟩, o6, -⟩ := h
  have g3 := me_3 hx
  have g2 := me_2 hx
  have g1 := me_1 hx
  have hz : (hb (Q p).2.1 e || hb (Q p).2.2.1 e) = true := hs
  obtain ⟨σ1, ma1, e1, c1, f1, l1, s1, s2⟩ := ClR.send (q := (M, c)) hC 1 (nI e) (nI p) (nI r)
  have c24 := c1.2.2.2.2.1.2.2.2.2
  refine ⟨σ1, ma1, cV_of ((eRm_answerWant _ _ σ).trans ?_), c1, msc_kp hC hx f1, f1.kp22 o3 o4 h8, ?_, ?_⟩
  · simp only [r1.f2, g3, h4.at hp, g1, se_rc (h4.2.1 p hp), Se_isSettled (h4.2.1 p hp) (show e < 64 by omega), Option.bind_some, eRm_answerWant_39]
    rw [if_pos hz, if_neg i10]
    simp only [r1.f3, g2, h5.rc, e1, Option.bind_some]
  · have s1' : σ1.1 + c = σ.1 + (sd1 (M, c) (1, nI e, nI p, nI r, 0)).2 := s1
    omega
  · have s2' : σ1.2.1 + 5 * c = σ.2.1 + 5 * (sd1 (M, c) (1, nI e, nI p, nI r, 0)).2 := s2
    omega
end DLV
section DLS
variable {σ : Hp} {o b sL rm sr wi wa : Nat} {xs : Nat → Int32} {se : Nat → Nat}
/-- the servers' invariant with one changed -/
theorem SvI.up {E : Ed} {N p : Nat} {Q : Nat → Sv} {q : Sv} (h : ∀ r, r < 3 → SvI E N (Q r)) (hq : SvI E N q) : ∀ r, r < 3 → SvI E N (va_up Q p q r) := by
  intro r hr
  by_cases c : r = p
  · rw [c, va_up_self]
    exact hq
  · rw [va_up_ne _ _ c]
    exact h r hr
theorem stp_deliver (hR : Rl σ o b sL xs rm sr wi wa se) (x : Int32) : StpR σ o b sL xs rm sr wi wa se nRm_deliver nMo_deliver [sI x] := by
  have hR' := hR
  obtain ⟨ma, P, E, N, Q, M, c, nw, I, L, hC, hM, hI, hS, hMs⟩ := hR'
  have h1 := hC.1
  have hN : N ≤ 40 := hI.1.2
  have h5 := hC.2.2.2.2.1
  have hc := h5.2.2.2.2
  have m1 := hM.1
  have m6 := hM.2.2.2.2.2
  rcases rng c (by omega) x with ⟨k, hk, rfl⟩ | hx
  · obtain ⟨c', rfl⟩ : ∃ c', c = c' + 1 := ⟨c - 1, by omega⟩
    obtain ⟨σ1, e1, c1, q1, k22, s1, s2⟩ := hC.take (show k ≤ c' by omega)
    obtain ⟨⟨r1, r2, r3, r4, r5⟩, -⟩ := m6.2 k hk
    obtain ⟨hk1, ⟨e, ee1, ee2, he⟩, ⟨r, hr, hre⟩, ⟨p, hp, hpe⟩, hsp⟩ := hMs k hk
    have hMs' : MsI N (tks M k) c' := hMs.tkz
    have k24 : k < 24 := by omega
    have nn : ¬ (some (ma k) = none) := fun z => by cases z
    have em : M k = ((M k).1, nI e, nI r, nI p, (M k).2.2.2.2) := by
      rw [← he, ← hre, ← hpe]
    have q1' : σ1.2.2 (ma k) = some (msc ((M k).1, nI e, nI r, nI p, (M k).2.2.2.2)) := by
      rw [← em]
      exact q1
    -- the class: what comes behind the taking
    have clW : (M k).1 = 2 → ∀ σc, cV rF nRm_answerWant [sA (some rm), sA (some (ma k))] σ1 = some σc → σc.2.2 (ma k) = some (msc ((M k).1, nI e, nI r, nI p, (M k).2.2.2.2)) → cI rF nRm_deliver [sA (some rm), sI (nI k)] σ = some ((M k).1, σc) := by
      intro w σc a1 a2
      have n2 : ¬ ¬ (M k).1 = 2 := fun z => z w
      have g0 : gfI σc (some (ma k)) 3 0 = some (M k).1 := (me_0 a2 :)
      refine cI_of ((eRm_deliver _ _ σ).trans ?_)
      simp only [h1.f3, h5.rc, e1, Option.bind_some, if_pos nn, me_0 q1, if_neg n2, c1.1.rc, a1, eRm_deliver_36, g0]
    have clV : (M k).1 = 1 → ∀ σc, cV rF nRm_receiveEvent [sA (some rm), sA (some (ma k))] σ1 = some σc → σc.2.2 (ma k) = some (msc ((M k).1, nI e, nI r, nI p, (M k).2.2.2.2)) → cI rF nRm_deliver [sA (some rm), sI (nI k)] σ = some ((M k).1, σc) := by
      intro w σc a1 a2
      have n2 : ¬ (M k).1 = 2 := by
        rw [w]
        decide
      have g0 : gfI σc (some (ma k)) 3 0 = some (M k).1 := (me_0 a2 :)
      refine cI_of ((eRm_deliver _ _ σ).trans ?_)
      simp only [h1.f3, h5.rc, e1, Option.bind_some, if_pos nn, me_0 q1, if_pos n2, c1.1.rc, a1, eRm_deliver_36, g0]
    -- the reference: what comes behind the taking
    have rf : ∀ σc, Kp22 o σ1 σc → ∃ σa Ia, MoA σa o E N Q (tks M k) c' nw Ia L ∧ FrM o σc σa ∧ (∃ w, σc.2.2 o = some (moc o w)) ∧ ∀ σz, (if ¬ (M k).1 = 1 then fMo_deliver_88 (some o) (M k).1 (nI e) (nI r) (nI p) σa else if ¬ (M k).2.2.2.2 = 0 then fMo_deliver_88 (some o) (M k).1 (nI e) (nI r) (nI p) σa else (cI rF nMo_known [sA (some o), sI (nI p), sI (nI e)] σa).bind fun q73 => if ¬ q73.1 = 0 then fMo_deliver_88 (some o) (M k).1 (nI e) (nI r) (nI p) q73.2 else (rcv q73.2 [sA (some o), sI (nI p), sI (nI e), sI (nI r)] 8).bind fun _ => (cV rF nMo_come [sA (some o), sI (nI p), sI (nI e), sI (nI r)] q73.2).bind fun q85 => fMo_deliver_88 (some o) (M k).1 (nI e) (nI r) (nI p) q85) = some (some (sI (M k).1), σz) → cI rF nMo_deliver [sA (some o), sI (nI k)] σc = some ((M k).1, σz) := by
      intro σc kc
      have m1' := m1.kp (k22.tr kc)
      obtain ⟨σa, Ia, e2, v2, i2, j2, f2⟩ := Mo_take (show c' < 24 by omega) (show k ≤ c' by omega) rfl m1' m6
      have r18 : alI σc (some (o + 18)) (nI k) = some (M k).1 := (m1'.g18 k24).trans (congrArg some r1)
      have r19 : alI σc (some (o + 19)) (nI k) = some (nI e) := (m1'.g19 k24).trans (congrArg some (r2.trans he))
      have r20 : alI σc (some (o + 20)) (nI k) = some (nI r) := (m1'.g20 k24).trans (congrArg some (r3.trans hre))
      have r21 : alI σc (some (o + 21)) (nI k) = some (nI p) := (m1'.g21 k24).trans (congrArg some (r4.trans hpe))
      have r22 : alZ σc (some (o + 22)) (nI k) = some (M k).2.2.2.2 := (m1'.g22 k24).trans (congrArg some r5)
      obtain ⟨-, m2, m3, m4, m5, -⟩ := hM
      have rr : ∀ t, rcv σa (sA (some o) :: t) 8 = some o := v2.rc
      refine ⟨σa, Ia, ⟨v2, m2.of2 (fun k _ k6 => i2 k (by omega)), m3.of (i2 11 (by decide)), fun n a1 a2 => ?_, fun r hr => ?_, j2⟩, f2, ⟨_, m1'.1⟩, fun σz hz => cI_of ((eMo_deliver _ _ σc).trans ?_)⟩
      · rw [i2 10 (by decide)]
        exact m4 n a1 a2
      · rw [i2 1 (by decide), i2 17 (by decide)]
        exact m5 r hr
      · simp only [m1'.fly, Mo_inw (show c' + 1 ≤ 40 by omega) hk, Option.bind_some, if_pos i10, m1'.f20, r18, m1'.f21, r19, m1'.f22, r20, m1'.f23, r21, m1'.f24, r22, m1'.rc, e2, rr]
        exact hz
    have d88 : (M k).1 = 1 → ∀ σz, fMo_deliver_88 (some o) (M k).1 (nI e) (nI r) (nI p) σz = some (some (sI (M k).1), σz) := by
      intro w σz
      have n2 : ¬ (M k).1 = 2 := by
        rw [w]
        decide
      rw [eMo_deliver_88, if_pos n2, eMo_deliver_113]
    rcases hk1 with w | w
    · have n1 : ¬ ¬ (M k).1 = 1 := fun z => z w
      by_cases ca : (M k).2.2.2.2 ≠ 0 ∨ sld (Q p) e = true
      · -- nothing comes of it
        have a1 := Rm_receive_A c1 q1' ee1 ee2 hp ca
        obtain ⟨σa, Ia, v2, f2, hw, hz⟩ := rf σ1 (Kp22.rf _ _)
        refine ⟨(M k).1, σ1, σa, clV w σ1 a1 q1', hz σa ?_, c1.2.2.2.2.2.2.1, hw, ⟨_, P, E, N, Q, _, c', nw, Ia, L, c1.fr f2, v2, hI, hS, hMs'⟩, ?_, ?_⟩
        · rw [if_neg n1]
          by_cases c0 : (M k).2.2.2.2 = 0
          · have n0 : ¬ ¬ (M k).2.2.2.2 = 0 := fun z => z c0
            rcases ca with z | z
            · exact absurd c0 z
            · rw [if_neg n0, Mo_known v2.1 v2.2.2.2.2.1 hp ee1 (show e < 41 by omega), if_pos z]
              simp only [Option.bind_some]
              rw [if_pos i10]
              exact d88 w _
          · rw [if_pos c0]
            exact d88 w _
        · rw [f2.1, s1]
          exact Nat.le_add_right _ _
        · rw [f2.2.1, s2]
          exact Nat.le_add_right _ _
      · have c0 : (M k).2.2.2.2 = 0 := by
          by_cases z : (M k).2.2.2.2 = 0
          · exact z
          · exact absurd (Or.inl z) ca
        have cs : sld (Q p) e = false := by
          cases z : sld (Q p) e
          · rfl
          · exact absurd (Or.inr z) ca
        have n0 : ¬ ¬ (M k).2.2.2.2 = 0 := fun z => z c0
        have cs' : ¬ sld (Q p) e = true := by
          rw [cs]
          decide
        rw [c0] at q1' clV
        have hm : ∀ n, hb (eP E e) n = true → 1 ≤ n ∧ n < 41 := fun n hn => by
          have := hI.pok e ee1 ee2 n hn
          omega
        by_cases cu : lg_cmp (uns (Q p) (eP E e)) 0 = 0
        · -- a look
          have a1 := Rm_receive_B c1 q1' ee1 ee2 hp cs cu
          have hq := c1.2.2.2.1.2.1 p hp
          have kc : Kp22 o σ1 (hput σ1 (se p) (sec (lkE E N 41 (Q p) e))) := (c1.2.2.2.2.2.2.2.2.2.1 p hp).put
          obtain ⟨σa, Ia, v2, f2, hw, hz⟩ := rf _ kc
          obtain ⟨σb, Ib, e3, v3, s3, f3⟩ := v2.look hN hI.pok hp ee1 ee2 (hS p hp)
          have e4 : cV rF nMo_come [sA (some o), sI (nI p), sI (nI e), sI (nI r)] σa = some σb := by
            refine cV_of ((eMo_come _ _ _ _ σa).trans ?_)
            simp only [v2.1.rc, Mo_ready hN v2.1 v2.2.1 v2.2.2.2.2.1 hp ee1 ee2 hm, if_pos cu, if_neg i10, Option.bind_some, e3]
          have c2 := c1.srv hp (lkE E N 41 (Q p) e)
          refine ⟨(M k).1, _, σb, clV w _ a1 (kp hq q1' sec_ms), hz σb ?_, c2.2.2.2.2.2.2.1, hw, ⟨_, P, E, N, _, _, c', nw, Ib, L, c2.fr (f2.tr f3), v3, hI, SvI.up hS s3, hMs'⟩, ?_, ?_⟩
          · rw [if_neg n1, if_neg n0, Mo_known v2.1 v2.2.2.2.2.1 hp ee1 (show e < 41 by omega), if_neg cs']
            simp only [Option.bind_some, not_true_eq_false, if_false, v2.1.rc, e4]
            exact d88 w _
          · rw [f3.1, f2.1]
            show σ1.1 ≤ _
            omega
          · rw [f3.2.1, f2.2.1]
            show σ1.2.1 ≤ _
            omega
        · -- it waits
          obtain ⟨σc, mc, a1, c2, x2, kc, t1, t2⟩ := Rm_receive_C c1 q1' ee1 ee2 hp cs cu
          obtain ⟨σa, Ia, v2, f2, hw, hz⟩ := rf σc kc
          obtain ⟨σb, Ib, e3, v3, f3⟩ := v2.pnd hp ee1 (show e < 41 by omega) cs
          have hpq : va_up Q p (pnd (Q p) e) p = pnd (Q p) e := va_up_self _ _ _
          obtain ⟨σd, Id, e5, v5, f5⟩ := Mo_come_31 hN (nI r) hp ee1 ee2 N 1 σb Ib L (tks M k, c') (Nat.le_refl _) (by omega) v3
          rw [hpq] at v5
          have e4 : cV rF nMo_come [sA (some o), sI (nI p), sI (nI e), sI (nI r)] σa = some σd := by
            refine cV_of ((eMo_come _ _ _ _ σa).trans ?_)
            simp only [v2.1.rc, Mo_ready hN v2.1 v2.2.1 v2.2.2.2.2.1 hp ee1 ee2 hm, if_neg cu, if_true, Option.bind_some, v2.1.f18, e3]
            exact e5
          refine ⟨(M k).1, σc, σd, clV w σc a1 x2, hz σd ?_, c2.2.2.2.2.2.2.1, hw, ⟨mc, P, E, N, _, _, _, nw, Id, L, c2.fr ((f2.tr f3).tr f5), v5, hI, SvI.up hS ((hS p hp).pnd hN ee1 ee2 cs), hMs'.sdaz (Or.inr rfl) ⟨p, hp, rfl⟩ ⟨r, hr, rfl⟩ N 1 (tks M k, c') (Nat.le_refl _) (by omega)⟩, ?_, ?_⟩
          · rw [if_neg n1, if_neg n0, Mo_known v2.1 v2.2.2.2.2.1 hp ee1 (show e < 41 by omega), if_neg cs']
            simp only [Option.bind_some, not_true_eq_false, if_false, v2.1.rc, e4]
            exact d88 w _
          · rw [f5.1, f3.1, f2.1]
            omega
          · rw [f5.2.1, f3.2.1, f2.2.1]
            omega
    · have n1 : ¬ (M k).1 = 1 := by
        rw [w]
        decide
      have n2 : ¬ ¬ (M k).1 = 2 := fun z => z w
      by_cases cs : sld (Q p) e = true
      · obtain ⟨σc, mc, a1, c2, x2, kc, t1, t2⟩ := Rm_answer_ok c1 q1' ee2 hp cs
        obtain ⟨σa, Ia, v2, f2, hw, hz⟩ := rf σc kc
        obtain ⟨σb, Ib, e3, v3, f3⟩ := MoA.send (q := (tks M k, c')) v2 1 (nI e) (nI p) (nI r)
        refine ⟨(M k).1, σc, σb, clW w σc a1 x2, hz σb ?_, c2.2.2.2.2.2.2.1, hw, ⟨mc, P, E, N, Q, _, _, nw, Ib, L, c2.fr (f2.tr f3), v3, hI, hS, MsI.sdz (q := (tks M k, c')) hMs' ⟨Or.inl rfl, ⟨e, ee1, ee2, rfl⟩, ⟨p, hp, rfl⟩, ⟨r, hr, rfl⟩, Or.inl rfl⟩⟩, ?_, ?_⟩
        · rw [if_pos n1, eMo_deliver_88, if_neg n2]
          simp only [v2.1.rc, Mo_known v2.1 v2.2.2.2.2.1 hp ee1 (show e < 41 by omega), if_pos cs, Option.bind_some, if_neg i10, e3, eMo_deliver_113]
        · rw [f3.1, f2.1]
          omega
        · rw [f3.2.1, f2.2.1]
          omega
      · have cs' : sld (Q p) e = false := by
          cases z : sld (Q p) e
          · rfl
          · exact absurd z cs
        have a1 := Rm_answer_no c1 q1' ee2 hp cs'
        obtain ⟨σa, Ia, v2, f2, hw, hz⟩ := rf σ1 (Kp22.rf _ _)
        refine ⟨(M k).1, σ1, σa, clW w σ1 a1 q1', hz σa ?_, c1.2.2.2.2.2.2.1, hw, ⟨_, P, E, N, Q, _, c', nw, Ia, L, c1.fr f2, v2, hI, hS, hMs'⟩, ?_, ?_⟩
        · rw [if_pos n1, eMo_deliver_88, if_neg n2]
          simp only [v2.1.rc, Mo_known v2.1 v2.2.2.2.2.1 hp ee1 (show e < 41 by omega), if_neg cs, Option.bind_some, if_true, eMo_deliver_113]
        · rw [f2.1, s1]
          exact Nat.le_add_right _ _
        · rw [f2.2.1, s2]
          exact Nat.le_add_right _ _
  · refine hR.ro (v := -1) (cI_of ((eRm_deliver _ _ σ).trans ?_)) (cI_of ((eMo_deliver _ _ σ).trans ?_))
    · simp only [h1.f3, h5.rc, Wi_take_no h5 hx, Option.bind_some, not_true_eq_false, if_false]
    · simp only [m1.fly, Mo_out (show c ≤ 40 by omega) hx, Option.bind_some, not_true_eq_false, if_false]
end DLS
