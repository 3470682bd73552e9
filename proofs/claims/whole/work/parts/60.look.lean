/-! A server looks at events: the class's endsOf, firstReady, lookAt; the reference's look. -/
def RmC (σ : Hp) (rm hi re sr wi vw : Nat) (nw : Int32) : Prop := σ.2.2 rm = some (.inr (0, [sA (some hi), sA (some re), sA (some sr), sA (some wi), sA (some vw), sI nw]))
def frd (E : Ed) (q : Sv) : Nat → Nat → Nat
  | _, 0 => 0
  | n, d + 1 => if hb q.1 n = true ∧ lg_cmp (uns q (eP E n)) 0 = 0 then n else frd E q (n + 1) d
/-- one look after another -/
def lkE (E : Ed) (N : Nat) : Nat → Sv → Nat → Sv
  | 0, q, _ => q
  | d + 1, q, e => if e = 0 then q else lkE E N d (stl q e (eG E e)) (frd E (stl q e (eG E e)) 1 N)
theorem frd_le (E : Ed) (q : Sv) : ∀ (d n : Nat), frd E q n d = 0 ∨ (n ≤ frd E q n d ∧ frd E q n d < n + d ∧ hb q.1 (frd E q n d) = true) := by
  intro d
  induction d with
  | zero => intro n; exact Or.inl rfl
  | succ d ih =>
    intro n
    show (if hb q.1 n = true ∧ lg_cmp (uns q (eP E n)) 0 = 0 then n else frd E q (n + 1) d) = 0 ∨ (n ≤ (if hb q.1 n = true ∧ lg_cmp (uns q (eP E n)) 0 = 0 then n else frd E q (n + 1) d) ∧ (if hb q.1 n = true ∧ lg_cmp (uns q (eP E n)) 0 = 0 then n else frd E q (n + 1) d) < n + (d + 1) ∧ hb q.1 (if hb q.1 n = true ∧ lg_cmp (uns q (eP E n)) 0 = 0 then n else frd E q (n + 1) d) = true)
    by_cases c : hb q.1 n = true ∧ lg_cmp (uns q (eP E n)) 0 = 0
    · rw [if_pos c]
      exact Or.inr ⟨Nat.le_refl _, by omega, c.1⟩
    · rw [if_neg c]
      rcases ih (n + 1) with h | ⟨h1, h2, h3⟩
      · exact Or.inl h
      · exact Or.inr ⟨by omega, by omega, h3⟩
section RLK
variable {σ : Hp} {rm hi re sr wi vw ev N x : Nat} {nw : Int32} {ea : Nat → Nat} {E : Ed} {q : Sv}
theorem RmC.f0 (h : RmC σ rm hi re sr wi vw nw) : gfA σ (some rm) 0 0 = some (some hi) := gfA_o h rfl
theorem RmC.f1 (h : RmC σ rm hi re sr wi vw nw) : gfA σ (some rm) 0 1 = some (some re) := gfA_o h rfl
theorem RmC.f2 (h : RmC σ rm hi re sr wi vw nw) : gfA σ (some rm) 0 2 = some (some sr) := gfA_o h rfl
theorem RmC.f3 (h : RmC σ rm hi re sr wi vw nw) : gfA σ (some rm) 0 3 = some (some wi) := gfA_o h rfl
theorem RmC.f4 (h : RmC σ rm hi re sr wi vw nw) : gfA σ (some rm) 0 4 = some (some vw) := gfA_o h rfl
theorem RmC.f5 (h : RmC σ rm hi re sr wi vw nw) : gfI σ (some rm) 0 5 = some nw := gfI_o h rfl
theorem RmC.rc (h : RmC σ rm hi re sr wi vw nw) (t : List sv) : rcv σ (sA (some rm) :: t) 0 = some rm := rcv_o h
theorem se_f0 (h : σ.2.2 x = some (sec q)) : gfJ σ (some x) 5 0 = some q.1 := gfJ_o h rfl
theorem se_f1 (h : σ.2.2 x = some (sec q)) : gfJ σ (some x) 5 1 = some q.2.1 := gfJ_o h rfl
theorem se_rc (h : σ.2.2 x = some (sec q)) (t : List sv) : rcv σ (sA (some x) :: t) 5 = some x := rcv_o h
theorem Rm_ends_5 (hN : N ≤ 40) (hr : RmC σ rm hi re sr wi vw nw) (hH : HiR σ hi ev ea N) (hE : EvA σ ea E N) (hx : σ.2.2 x = some (sec q)) : ∀ (d n : Nat) (m : Int64), 1 ≤ n → n + d = N + 1 → fRm_endsOf_5 (some rm) (some x) m (nI n) σ = some (some (sJ (q.2.1 &&& (flw E q.2.1 n d m ^^^ (-1)))), σ) := by
  intro d
  induction d with
  | zero =>
    intro n m h1 hn
    have : n = N + 1 := by omega
    subst this
    rw [eRm_endsOf_5]
    simp only [hr.f0, hH.made, Option.bind_some, if_pos (nN1 hN), se_f1 hx]
    rfl
  | succ d ih =>
    intro n m h1 hn
    have hle : n ≤ N := by omega
    rw [eRm_endsOf_5]
    simp only [hr.f0, hH.made, hH.rc, Option.bind_some, if_neg (nN hN hle), se_f1 hx, Hi_pick hH hN h1 hle, eRm_endsOf_45, nI1]
    cases hb1 : hb q.2.1 n
    · have e1 : flw E q.2.1 n (d + 1) m = flw E q.2.1 (n + 1) d m := by
        show flw E q.2.1 (n + 1) d (if hb q.2.1 n = true then _ else m) = _
        rw [hb1, if_neg (by decide)]
      rw [if_neg (show ¬ (false = true) by decide), if_pos rfl, e1]
      exact ih (n + 1) m (by omega) (by omega)
    · have e1 : flw E q.2.1 n (d + 1) m = flw E q.2.1 (n + 1) d (m ||| eP E n) := by
        show flw E q.2.1 (n + 1) d (if hb q.2.1 n = true then _ else m) = _
        rw [if_pos hb1]
      have nn : ¬ (some (ea n) = none) := fun z => by cases z
      rw [if_pos rfl, if_neg nn, e1]
      simp only [(hE n h1 hle).pv, Option.bind_some]
      exact ih (n + 1) _ (by omega) (by omega)
theorem Rm_endsOf (hN : N ≤ 40) (hr : RmC σ rm hi re sr wi vw nw) (hH : HiR σ hi ev ea N) (hE : EvA σ ea E N) (hx : σ.2.2 x = some (sec q)) : cJ rF nRm_endsOf [sA (some rm), sA (some x)] σ = some (q.2.1 &&& (flw E q.2.1 1 N 0 ^^^ (-1)), σ) :=
  cJ_of ((eRm_endsOf _ _ σ).trans (Rm_ends_5 hN hr hH hE hx N 1 0 (Nat.le_refl _) (by omega)))
theorem Rm_first_2 (hN : N ≤ 40) (hr : RmC σ rm hi re sr wi vw nw) (hH : HiR σ hi ev ea N) (hE : EvA σ ea E N) (hx : σ.2.2 x = some (sec q)) : ∀ (d n : Nat), 1 ≤ n → n + d = N + 1 → fRm_firstReady_2 (some rm) (some x) (nI n) σ = some (some (sA (er ea (frd E q n d))), σ) := by
  intro d
  induction d with
  | zero =>
    intro n h1 hn
    have : n = N + 1 := by omega
    subst this
    rw [eRm_firstReady_2]
    simp only [hr.f0, hH.made, Option.bind_some, if_pos (nN1 hN)]
    show _ = some (some (sA (er ea 0)), σ)
    rw [er_0]
  | succ d ih =>
    intro n h1 hn
    have hle : n ≤ N := by omega
    rw [eRm_firstReady_2]
    simp only [hr.f0, hH.made, hH.rc, Option.bind_some, if_neg (nN hN hle), se_f0 hx, Hi_pick hH hN h1 hle, eRm_firstReady_45, nI1]
    have hu : frd E q n (d + 1) = if hb q.1 n = true ∧ lg_cmp (uns q (eP E n)) 0 = 0 then n else frd E q (n + 1) d := rfl
    cases hb1 : hb q.1 n
    · have n1 : ¬ (hb q.1 n = true ∧ lg_cmp (uns q (eP E n)) 0 = 0) := fun z => by
        rw [hb1] at z
        cases z.1
      rw [hu, if_neg n1, if_neg (show ¬ (false = true) by decide), if_pos rfl]
      exact ih (n + 1) (by omega) (by omega)
    · have nn : ¬ (some (ea n) = none) := fun z => by cases z
      rw [if_pos rfl, if_neg nn]
      simp only [(hE n h1 hle).pv, se_rc hx, Se_unsettled hx, Option.bind_some]
      by_cases c : lg_cmp (uns q (eP E n)) 0 = 0
      · have n1 : ¬ ¬ lg_cmp (eP E n &&& ((q.2.1 ||| q.2.2.1) ^^^ (-1))) 0 = 0 := fun z => z c
        have p1 : hb q.1 n = true ∧ lg_cmp (uns q (eP E n)) 0 = 0 := ⟨hb1, c⟩
        rw [hu, if_pos p1, if_neg n1, er_n (show n ≠ 0 by omega)]
      · have n1 : ¬ (hb q.1 n = true ∧ lg_cmp (uns q (eP E n)) 0 = 0) := fun z => c z.2
        have n2 : ¬ lg_cmp (eP E n &&& ((q.2.1 ||| q.2.2.1) ^^^ (-1))) 0 = 0 := c
        rw [hu, if_neg n1, if_pos n2]
        exact ih (n + 1) (by omega) (by omega)
theorem Rm_firstReady (hN : N ≤ 40) (hr : RmC σ rm hi re sr wi vw nw) (hH : HiR σ hi ev ea N) (hE : EvA σ ea E N) (hx : σ.2.2 x = some (sec q)) : cA rF nRm_firstReady [sA (some rm), sA (some x)] σ = some (er ea (frd E q 1 N), σ) :=
  cA_of ((eRm_firstReady _ _ σ).trans (Rm_first_2 hN hr hH hE hx N 1 (Nat.le_refl _) (by omega)))
end RLK
section RLW
variable {rm hi re sr wi vw ev N x : Nat} {nw : Int32} {ea : Nat → Nat} {E : Ed}
theorem HiR.kpS {σ : Hp} {q : Sv} {c : Cl} (h : HiR σ hi ev ea N) (hx : σ.2.2 x = some (sec q)) : HiR (hput σ x c) hi ev ea N := by
  obtain ⟨h1, f, h2, h3⟩ := h
  refine ⟨kp hx h1 (fun e => ?_), f, kp hx h2 (fun e => ?_), h3⟩
  · injection e with e
    injection e with e1 e2
    cases e1
  · cases e
theorem EvA.kpS {σ : Hp} {q : Sv} {c : Cl} (h : EvA σ ea E N) (hx : σ.2.2 x = some (sec q)) : EvA (hput σ x c) ea E N := by
  intro n h1 h2
  obtain ⟨a, b, d, h3⟩ := h n h1 h2
  refine ⟨a, b, d, kp hx h3 (fun e => ?_)⟩
  injection e with e
  injection e with e1 e2
  cases e1
theorem RmC.kpS {σ : Hp} {q : Sv} {c : Cl} (h : RmC σ rm hi re sr wi vw nw) (hx : σ.2.2 x = some (sec q)) : RmC (hput σ x c) rm hi re sr wi vw nw := by
  refine kp hx h (fun e => ?_)
  injection e with e
  injection e with e1 e2
  cases e1
theorem Rm_look_5 (hN : N ≤ 40) : ∀ (d i e : Nat) (σ : Hp) (q : Sv), i + d = 41 → e ≤ N → RmC σ rm hi re sr wi vw nw → HiR σ hi ev ea N → EvA σ ea E N → σ.2.2 x = some (sec q) → fRm_lookAt_5 (some rm) (some x) (er ea e) (nI i) σ = some (none, hput σ x (sec (lkE E N d q e))) := by
  intro d
  induction d with
  | zero =>
    intro i e σ q hi he hr hH hE hx
    have : i = 41 := by omega
    subst this
    rw [eRm_lookAt_5, if_pos (show (40 : Int32) < nI 41 by decide), eRm_lookAt_33]
    show _ = some (none, hput σ x (sec q))
    rw [hput_self hx]
  | succ d ih =>
    intro i e σ q hi he hr hH hE hx
    have n40 : ¬ (40 : Int32) < nI i := fun z => by
      have := (nI_ltI (a := 40) (b := i) (by decide) (by omega)).mp z
      omega
    rw [eRm_lookAt_5, if_neg n40, eRm_lookAt_33]
    have hu : lkE E N (d + 1) q e = if e = 0 then q else lkE E N d (stl q e (eG E e)) (frd E (stl q e (eG E e)) 1 N) := rfl
    by_cases c : e = 0
    · rw [hu, if_pos c, c, er_0, if_pos rfl, hput_self hx]
    · have nn : ¬ (some (ea e) = none) := fun z => by cases z
      rw [hu, if_neg c, er_n c, if_neg nn]
      have hs := Se_settle hx (hE e (by omega) he)
      have hx1 : (hput σ x (sec (stl q e (eG E e)))).2.2 x = some (sec (stl q e (eG E e))) := hput_same _ _ _
      simp only [se_rc hx, hs, (hr.kpS hx).rc, Rm_firstReady hN (hr.kpS hx) (hH.kpS hx) (hE.kpS hx) hx1, Option.bind_some, nI1]
      have hle : frd E (stl q e (eG E e)) 1 N ≤ N := by
        rcases frd_le E (stl q e (eG E e)) N 1 with z | ⟨_, z, _⟩
        · omega
        · omega
      rw [ih (i + 1) _ _ _ (by omega) hle (hr.kpS hx) (hH.kpS hx) (hE.kpS hx) hx1, hput_hput]
theorem Rm_lookAt {σ : Hp} {q : Sv} {e : Nat} (hN : N ≤ 40) (he : e ≤ N) (hr : RmC σ rm hi re sr wi vw nw) (hH : HiR σ hi ev ea N) (hE : EvA σ ea E N) (hx : σ.2.2 x = some (sec q)) : cV rF nRm_lookAt [sA (some rm), sA (some x), sA (er ea e)] σ = some (hput σ x (sec (lkE E N 41 q e))) :=
  cV_of ((eRm_lookAt _ _ _ σ).trans (Rm_look_5 hN 41 0 e σ q rfl he hr hH hE hx))
end RLW
