/-! The reference's look. -/
/-- a server's sets are sound -/
def SvOk (E : Ed) (N : Nat) (q : Sv) : Prop := (∀ n, hb q.1 n = true → (1 ≤ n ∧ n ≤ N) ∧ sld q n = false) ∧ (∀ n, hb q.2.1 n = true → (1 ≤ n ∧ n ≤ N) ∧ eG E n ≠ 0) ∧ ∀ n, hb q.2.2.1 n = true → (1 ≤ n ∧ n ≤ N) ∧ eG E n = 0
theorem stn_stl {q : Sv} {e : Nat} {gd : Int32} (he : e < 64) (hq : hb q.2.1 e = true → gd ≠ 0) (n : Nat) : stn (stl q e gd) n = if n = e then (if gd = 0 then 3 else 2) else stn q n := by
  unfold stn stl
  by_cases g0 : gd = 0
  · rw [if_pos g0, if_pos g0]
    show (if hb q.2.1 n = true then _ else if hb (q.2.2.1 ||| bitN e) n = true then _ else if hb (q.1 &&& (bitN e ^^^ (-1))) n = true then _ else _) = _
    rw [hb_or, hb_bit he, hb_rm _ he]
    by_cases c : n = e
    · subst c
      have hf : hb q.2.1 n = false := by
        cases z : hb q.2.1 n
        · rfl
        · exact absurd g0 (hq z)
      rw [hf]
      simp
    · simp [c]
  · rw [if_neg g0, if_neg g0]
    show (if hb (q.2.1 ||| bitN e) n = true then _ else if hb q.2.2.1 n = true then _ else if hb (q.1 &&& (bitN e ^^^ (-1))) n = true then _ else _) = _
    rw [hb_or, hb_bit he, hb_rm _ he]
    by_cases c : n = e
    · simp [c]
    · simp [c]
theorem stl_1 (q : Sv) (e : Nat) (gd : Int32) : (stl q e gd).1 = q.1 &&& (bitN e ^^^ (-1)) ∧ (stl q e gd).2.2.2 = q.2.2.2 := by
  unfold stl
  split <;> exact ⟨rfl, rfl⟩
theorem sld_stl {q : Sv} {e n : Nat} {gd : Int32} (he : e < 64) (hn : n ≠ e) : sld (stl q e gd) n = sld q n := by
  unfold sld stl
  split
  · show (hb q.2.1 n || hb (q.2.2.1 ||| bitN e) n) = _
    rw [hb_or, hb_bit he, decide_eq_false hn, Bool.or_false]
  · show (hb (q.2.1 ||| bitN e) n || hb q.2.2.1 n) = _
    rw [hb_or, hb_bit he, decide_eq_false hn, Bool.or_false]
theorem SvOk_st {E : Ed} {N e : Nat} {q : Sv} (h : SvOk E N q) (hN : N ≤ 40) (h1 : 1 ≤ e) (h2 : e ≤ N) : SvOk E N (stl q e (eG E e)) := by
  have he : e < 64 := by omega
  have hp : ∀ n, hb (stl q e (eG E e)).1 n = true → (1 ≤ n ∧ n ≤ N) ∧ sld (stl q e (eG E e)) n = false := fun n hn => by
    rw [(stl_1 q e _).1, hb_rm _ he] at hn
    have hne : n ≠ e := fun z => by
      rw [z] at hn
      simp at hn
    rw [sld_stl he hne]
    refine h.1 n ?_
    cases z : hb q.1 n
    · rw [z] at hn
      cases hn
    · rfl
  by_cases g0 : eG E e = 0
  · have e1 : stl q e (eG E e) = (q.1 &&& (bitN e ^^^ (-1)), q.2.1, q.2.2.1 ||| bitN e, q.2.2.2) := by
      unfold stl
      rw [if_pos g0]
    refine ⟨hp, fun n hn => ?_, fun n hn => ?_⟩
    · rw [e1] at hn
      exact h.2.1 n hn
    · rw [e1] at hn
      replace hn : hb (q.2.2.1 ||| bitN e) n = true := hn
      rw [hb_or, hb_bit he] at hn
      by_cases c : n = e
      · rw [c]
        exact ⟨⟨h1, h2⟩, g0⟩
      · rw [decide_eq_false c, Bool.or_false] at hn
        exact h.2.2 n hn
  · have e1 : stl q e (eG E e) = (q.1 &&& (bitN e ^^^ (-1)), q.2.1 ||| bitN e, q.2.2.1, q.2.2.2) := by
      unfold stl
      rw [if_neg g0]
    refine ⟨hp, fun n hn => ?_, fun n hn => ?_⟩
    · rw [e1] at hn
      replace hn : hb (q.2.1 ||| bitN e) n = true := hn
      rw [hb_or, hb_bit he] at hn
      by_cases c : n = e
      · rw [c]
        exact ⟨⟨h1, h2⟩, g0⟩
      · rw [decide_eq_false c, Bool.or_false] at hn
        exact h.2.1 n hn
    · rw [e1] at hn
      exact h.2.2 n hn
theorem stn_p {E : Ed} {N : Nat} {q : Sv} (h : SvOk E N q) (n : Nat) : stn q n = 1 ↔ hb q.1 n = true := by
  have a := h.1 n
  unfold sld at a
  unfold stn
  cases x : hb q.1 n
  · cases hb q.2.1 n <;> cases hb q.2.2.1 n <;> decide
  · have b := (a x).2
    rw [Bool.or_eq_false_iff] at b
    rw [b.1, b.2]
    decide
abbrev rdp (E : Ed) (q : Sv) (n : Nat) : Prop := hb q.1 n = true ∧ lg_cmp (uns q (eP E n)) 0 = 0
theorem frd_u (E : Ed) (q : Sv) (n d : Nat) : frd E q n (d + 1) = if rdp E q n then n else frd E q (n + 1) d := rfl
theorem frd_sn (E : Ed) (q : Sv) : ∀ (d m : Nat), 1 ≤ m → frd E q m (d + 1) = if frd E q m d = 0 then (if rdp E q (m + d) then m + d else 0) else frd E q m d := by
  intro d
  induction d with
  | zero =>
    intro m _
    rw [frd_u]
    show (if rdp E q m then m else 0) = if (0 : Nat) = 0 then _ else _
    rw [if_pos rfl]
    rfl
  | succ d ih =>
    intro m hm
    rw [frd_u, ih (m + 1) (by omega), frd_u E q m d]
    by_cases c : rdp E q m
    · rw [if_pos c, if_pos c, if_neg (show ¬ m = 0 by omega)]
    · rw [if_neg c, if_neg c, show m + 1 + d = m + (d + 1) by omega]
def fsl (E : Ed) (q : Sv) : Nat → Nat → Nat
  | 0, f => f
  | n + 1, f => fsl E q n (if rdp E q (n + 1) then n + 1 else f)
theorem fsl_eq (E : Ed) (q : Sv) : ∀ (n f : Nat), fsl E q n f = if frd E q 1 n = 0 then f else frd E q 1 n := by
  intro n
  induction n with
  | zero => intro f; rfl
  | succ n ih =>
    intro f
    show fsl E q n (if rdp E q (n + 1) then n + 1 else f) = _
    rw [ih, frd_sn E q n 1 (Nat.le_refl _), show 1 + n = n + 1 by omega]
    by_cases c : frd E q 1 n = 0
    · rw [if_pos c, if_pos c]
      by_cases c2 : rdp E q (n + 1)
      · rw [if_pos c2, if_pos c2, if_neg (show ¬ n + 1 = 0 by omega)]
      · rw [if_neg c2, if_neg c2, if_pos rfl]
    · rw [if_neg c, if_neg c, if_neg c]
section MLK
variable {o N p : Nat} {w : Int32 × Int32 × Int32} {L : Nat → Nat → Int64} {E : Ed}
/-- prevs are lesser numbers -/
def Pok (E : Ed) (N : Nat) : Prop := ∀ e, 1 ≤ e → e ≤ N → ∀ n, hb (eP E e) n = true → 1 ≤ n ∧ n < e
theorem Mo_look_39 {σ : Hp} {I : Nat → Nat → Int32} {Q : Nat → Sv} (hN : N ≤ 40) (hp : p < 3) (hP : Pok E N) (h : MoR σ o w I L) (hE : MoE I L E N) (hQ : MoS I Q) (hS : SvOk E N (Q p)) : ∀ (n f : Nat), n ≤ N → fMo_look_39 (some o) (nI p) (nI f) (nI n) σ = fMo_look_2 (some o) (nI p) (nI (fsl E (Q p) n f)) σ := by
  intro n
  induction n with
  | zero =>
    intro f _
    rw [eMo_look_39, if_pos (show nI 0 ≤ 0 by decide)]
    rfl
  | succ n ih =>
    intro f hn
    have n0 : ¬ nI (n + 1) ≤ 0 := fun z => by
      have := (nIle0 (n := n + 1) (by omega)).mp z
      omega
    have hm : ∀ i, hb (eP E (n + 1)) i = true → 1 ≤ i ∧ i < 41 := fun i hi => by
      have := hP (n + 1) (by omega) hn i hi
      omega
    rw [eMo_look_39, if_neg n0]
    simp only [h.f18, nI41, h.g17 (show 41 * p + (n + 1) < 123 by omega), (hQ p hp).2 (n + 1) (by omega) (by omega), Option.bind_some, h.rc, Mo_ready hN h hE hQ hp (show 1 ≤ n + 1 by omega) hn hm, eMo_look_73, nIm1]
    show _ = fMo_look_2 (some o) (nI p) (nI (fsl E (Q p) n (if rdp E (Q p) (n + 1) then n + 1 else f))) σ
    by_cases c1 : hb (Q p).1 (n + 1) = true
    · have s1 : ¬ ¬ stn (Q p) (n + 1) = 1 := fun z => z ((stn_p hS (n + 1)).mpr c1)
      rw [if_neg s1]
      by_cases c2 : lg_cmp (uns (Q p) (eP E (n + 1))) 0 = 0
      · have r1 : rdp E (Q p) (n + 1) := ⟨c1, c2⟩
        rw [if_pos c2, if_neg (show ¬ ((1 : Int32) = 0) by decide), if_pos r1]
        exact ih (n + 1) (by omega)
      · have r1 : ¬ rdp E (Q p) (n + 1) := fun z => c2 z.2
        rw [if_neg c2, if_pos rfl, if_neg r1]
        exact ih f (by omega)
    · have s1 : ¬ stn (Q p) (n + 1) = 1 := fun z => c1 ((stn_p hS (n + 1)).mp z)
      have r1 : ¬ rdp E (Q p) (n + 1) := fun z => c1 z.1
      rw [if_pos s1, if_neg r1]
      exact ih f (by omega)
theorem Mo_look_2 (hN : N ≤ 40) (hp : p < 3) (hP : Pok E N) (hw : w.2.1 = nI N) : ∀ (d e : Nat) (σ : Hp) (I : Nat → Nat → Int32) (Q : Nat → Sv), (e = 0 ∨ (1 ≤ e ∧ e ≤ N ∧ cnt ((Q p).1 &&& (bitN e ^^^ (-1))) N + 1 ≤ d)) → MoR σ o w I L → MoE I L E N → MoS I Q → SvOk E N (Q p) → (∀ n, 1 ≤ n → n ≤ N → I 10 n = eG E n) → ∃ σ1 I1, fMo_look_2 (some o) (nI p) (nI e) σ = some (none, σ1) ∧ MoR σ1 o w I1 L ∧ (∀ k, k ≠ 17 → I1 k = I k) ∧ MoS I1 (va_up Q p (lkE E N d (Q p) e)) ∧ SvOk E N (lkE E N d (Q p) e) ∧ FrM o σ σ1 := by
  intro d
  induction d with
  | zero =>
    intro e σ I Q he h hE hQ hS h10
    have e0 : e = 0 := by
      rcases he with z | ⟨_, _, z⟩
      · exact z
      · omega
    subst e0
    refine ⟨σ, I, ?_, h, fun _ _ => rfl, ?_, hS, FrM.rf o σ⟩
    · rw [eMo_look_2, if_pos (show nI 0 ≤ 0 by decide)]
    · show MoS I (va_up Q p (Q p))
      rw [up_id rfl]
      exact hQ
  | succ d ih =>
    intro e σ I Q he h hE hQ hS h10
    have hu : lkE E N (d + 1) (Q p) e = if e = 0 then Q p else lkE E N d (stl (Q p) e (eG E e)) (frd E (stl (Q p) e (eG E e)) 1 N) := rfl
    by_cases c : e = 0
    · rw [hu, if_pos c, c]
      refine ⟨σ, I, ?_, h, fun _ _ => rfl, ?_, hS, FrM.rf o σ⟩
      · rw [eMo_look_2, if_pos (show nI 0 ≤ 0 by decide)]
      · rw [up_id rfl]
        exact hQ
    · obtain ⟨h1, h2, hc⟩ : 1 ≤ e ∧ e ≤ N ∧ cnt ((Q p).1 &&& (bitN e ^^^ (-1))) N + 1 ≤ d + 1 := by
        rcases he with z | z
        · exact absurd z c
        · exact z
      rw [hu, if_neg c]
      have n0 : ¬ nI e ≤ 0 := fun z => c ((nIle0 (by omega)).mp z)
      obtain ⟨σ1, w1, v1, f1⟩ := h.wI 17 (by decide) (by decide) (fun J => rfl) (show 41 * p + e < mlen 17 from (by show 41 * p + e < 123; omega)) (if eG E e = 0 then (3 : Int32) else 2)
      have hst : ∀ n, stn (stl (Q p) e (eG E e)) n = if n = e then (if eG E e = 0 then 3 else 2) else stn (Q p) n := stn_stl (by omega) (fun z => (hS.2.1 e z).2)
      have hQ1 : MoS (va_up I 17 (va_up (I 17) (41 * p + e) (if eG E e = 0 then (3 : Int32) else 2))) (va_up Q p (stl (Q p) e (eG E e))) := by
        intro p' hp'
        rw [va_up_ne _ _ (show 1 ≠ 17 by decide), va_up_self]
        by_cases cp : p' = p
        · subst cp
          rw [va_up_self]
          refine ⟨by rw [(stl_1 _ _ _).2]; exact (hQ p' hp').1, fun e' a1 a2 => ?_⟩
          rw [hst]
          by_cases ce : e' = e
          · rw [ce, va_up_self, if_pos rfl]
          · rw [va_up_ne _ _ (by omega), if_neg ce]
            exact (hQ p' hp').2 e' a1 a2
        · rw [va_up_ne _ _ cp]
          refine ⟨(hQ p' hp').1, fun e' a1 a2 => ?_⟩
          rw [va_up_ne _ _ (by omega)]
          exact (hQ p' hp').2 e' a1 a2
      have hS1 : SvOk E N ((va_up Q p (stl (Q p) e (eG E e))) p) := by
        rw [va_up_self]
        exact SvOk_st hS hN h1 h2
      have hE1 : MoE (va_up I 17 (va_up (I 17) (41 * p + e) (if eG E e = 0 then (3 : Int32) else 2))) L E N := hE.up (by decide)
      have w2 := Mo_look_39 hN hp hP v1 hE1 hQ1 hS1 N 0 (Nat.le_refl _)
      rw [fsl_eq, va_up_self] at w2
      have ef : (if frd E (stl (Q p) e (eG E e)) 1 N = 0 then 0 else frd E (stl (Q p) e (eG E e)) 1 N) = frd E (stl (Q p) e (eG E e)) 1 N := by
        split
        · rename_i z
          exact z.symm
        · rfl
      rw [ef] at w2
      have hnext : frd E (stl (Q p) e (eG E e)) 1 N = 0 ∨ (1 ≤ frd E (stl (Q p) e (eG E e)) 1 N ∧ frd E (stl (Q p) e (eG E e)) 1 N ≤ N ∧ cnt (((va_up Q p (stl (Q p) e (eG E e))) p).1 &&& (bitN (frd E (stl (Q p) e (eG E e)) 1 N) ^^^ (-1))) N + 1 ≤ d) := by
        rcases frd_le E (stl (Q p) e (eG E e)) N 1 with z | ⟨z1, z2, z3⟩
        · exact Or.inl z
        · refine Or.inr ⟨z1, by omega, ?_⟩
          rw [va_up_self]
          have := cnt_rm z1 (by omega) z3 N
          rw [if_pos (by omega)] at this
          rw [this, (stl_1 _ _ _).1]
          omega
      obtain ⟨σ3, I3, w3, v3, k3, q3, s3, f3⟩ := ih (frd E (stl (Q p) e (eG E e)) 1 N) σ1 _ _ hnext v1 hE1 hQ1 hS1 (fun n a1 a2 => by
        rw [va_up_ne _ _ (show 10 ≠ 17 by decide)]
        exact h10 n a1 a2)
      rw [va_up_self] at q3 s3
      rw [up_up] at q3
      refine ⟨σ3, I3, ?_, v3, fun k hk => by rw [k3 k hk, va_up_ne _ _ hk], q3, s3, f1.tr f3⟩
      have s30 : fMo_look_30 (some o) (nI p) (some (o + 17)) (nI (41 * p + e)) (if eG E e = 0 then (3 : Int32) else 2) σ = some (none, σ3) := by
        rw [eMo_look_30]
        simp only [w1, v1.made, hw, Option.bind_some]
        exact (show fMo_look_39 (some o) (nI p) (0 : Int32) (nI N) σ1 = _ from w2).trans w3
      rw [eMo_look_2, if_neg n0]
      simp only [h.f18, h.f11, h.g10 (show e < 41 by omega), h10 e h1 h2, nI41, Option.bind_some]
      by_cases g0 : eG E e = 0
      · rw [if_pos g0] at s30
        rw [if_pos g0]
        exact s30
      · rw [if_neg g0] at s30
        rw [if_neg g0]
        exact s30
theorem Mo_look {σ : Hp} {I : Nat → Nat → Int32} {Q : Nat → Sv} {e : Nat} (hN : N ≤ 40) (hp : p < 3) (hP : Pok E N) (hw : w.2.1 = nI N) (h1 : 1 ≤ e) (h2 : e ≤ N) (h : MoR σ o w I L) (hE : MoE I L E N) (hQ : MoS I Q) (hS : SvOk E N (Q p)) (h10 : ∀ n, 1 ≤ n → n ≤ N → I 10 n = eG E n) : ∃ σ1 I1, cV rF nMo_look [sA (some o), sI (nI p), sI (nI e)] σ = some σ1 ∧ MoR σ1 o w I1 L ∧ (∀ k, k ≠ 17 → I1 k = I k) ∧ MoS I1 (va_up Q p (lkE E N 41 (Q p) e)) ∧ SvOk E N (lkE E N 41 (Q p) e) ∧ FrM o σ σ1 := by
  have := cnt_le ((Q p).1 &&& (bitN e ^^^ (-1))) N
  obtain ⟨σ1, I1, w1, r⟩ := Mo_look_2 (o := o) (L := L) hN hp hP hw 41 e σ I Q (Or.inr ⟨h1, h2, by omega⟩) h hE hQ hS h10
  exact ⟨σ1, I1, cV_of ((eMo_look _ _ _ σ).trans w1), r⟩
end MLK
