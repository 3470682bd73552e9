/-! Places on the mainline; the reference's placeOf, tryOthers. -/
def PlOk (E : Ed) (N : Nat) (ml pl : Nat → Int32) : Prop := ∀ n, 1 ≤ n → n ≤ N → pl n = plc E ml pl n
section PLS
variable {E : Ed} {N : Nat} {ml : Nat → Int32}
theorem pls_lo : ∀ (d n : Nat) (pl : Nat → Int32) (j : Nat), j < n → pls E ml n d pl j = pl j := by
  intro d
  induction d with
  | zero => intro n pl j _; rfl
  | succ d ih =>
    intro n pl j hj
    show pls E ml (n + 1) d (va_up pl n (plc E ml pl n)) j = pl j
    rw [ih (n + 1) _ j (by omega), va_up_ne _ _ (by omega)]
theorem plc_c {pl pl' : Nat → Int32} {n : Nat} (h : pl (eA E n 1) = pl' (eA E n 1)) : plc E ml pl n = plc E ml pl' n := by
  unfold plc
  rw [h]
theorem pls_in (hA : ∀ n, 1 ≤ n → n ≤ N → eA E n 1 < n) : ∀ (d n : Nat) (pl : Nat → Int32), 1 ≤ n → n + d = N + 1 → ∀ j, n ≤ j → j ≤ N → pls E ml n d pl j = plc E ml (pls E ml n d pl) j := by
  intro d
  induction d with
  | zero => intro n pl _ hn j h1 h2; omega
  | succ d ih =>
    intro n pl h1 hn j hj1 hj2
    show pls E ml (n + 1) d (va_up pl n (plc E ml pl n)) j = plc E ml (pls E ml (n + 1) d (va_up pl n (plc E ml pl n))) j
    by_cases c : j = n
    · subst c
      have hlt := hA j h1 hj2
      rw [pls_lo d (j + 1) _ j (by omega), va_up_self]
      refine plc_c ?_
      rw [pls_lo d (j + 1) _ _ (by omega), va_up_ne _ _ (by omega)]
    · exact ih (n + 1) _ (by omega) (by omega) j (by omega) hj2
theorem pls_ok (hA : ∀ n, 1 ≤ n → n ≤ N → eA E n 1 < n) (pl : Nat → Int32) : PlOk E N ml (pls E ml 1 N pl) := fun n h1 h2 => pls_in hA N 1 pl (Nat.le_refl _) (by omega) n h1 h2
theorem mln_c : ∀ (d i e : Nat) (m m' : Nat → Int32), (∀ j, j < 41 → m j = m' j) → ∀ j, j < 41 → mln E d i e m j = mln E d i e m' j := by
  intro d
  induction d with
  | zero => intro i e m m' h j hj; exact h j hj
  | succ d ih =>
    intro i e m m' h j hj
    show (if e = 0 then m else mln E d (i + 1) (eA E e 1) (va_up m e (nI i))) j = (if e = 0 then m' else mln E d (i + 1) (eA E e 1) (va_up m' e (nI i))) j
    by_cases c : e = 0
    · rw [if_pos c, if_pos c]
      exact h j hj
    · rw [if_neg c, if_neg c]
      refine ih _ _ _ _ (fun q hq => ?_) j hj
      by_cases cq : q = e
      · rw [cq, va_up_self, va_up_self]
      · rw [va_up_ne _ _ cq, va_up_ne _ _ cq]
        exact h q hq
theorem mln_s (hA : ∀ n, 1 ≤ n → n ≤ N → eA E n 1 < n) : ∀ (d i e : Nat) (m : Nat → Int32), e ≤ d → e ≤ N → mln E (d + 1) i e m = mln E d i e m := by
  intro d
  induction d with
  | zero =>
    intro i e m h1 h2
    show (if e = 0 then m else _) = m
    rw [if_pos (by omega)]
  | succ d ih =>
    intro i e m h1 h2
    show (if e = 0 then m else mln E (d + 1) (i + 1) (eA E e 1) (va_up m e (nI i))) = if e = 0 then m else mln E d (i + 1) (eA E e 1) (va_up m e (nI i))
    by_cases c : e = 0
    · rw [if_pos c, if_pos c]
    · have := hA e (by omega) h2
      rw [if_neg c, if_neg c, ih _ _ _ (by omega) (by omega)]
theorem mln_v : ∀ (d i e : Nat) (m : Nat → Int32), i + d ≤ 41 → (∀ j, j < 41 → m j = -1 ∨ 0 ≤ m j) → ∀ j, j < 41 → mln E d i e m j = -1 ∨ 0 ≤ mln E d i e m j := by
  intro d
  induction d with
  | zero => intro i e m _ h j hj; exact h j hj
  | succ d ih =>
    intro i e m hi h j hj
    show (if e = 0 then m else mln E d (i + 1) (eA E e 1) (va_up m e (nI i))) j = -1 ∨ 0 ≤ (if e = 0 then m else mln E d (i + 1) (eA E e 1) (va_up m e (nI i))) j
    by_cases c : e = 0
    · rw [if_pos c]
      exact h j hj
    · rw [if_neg c]
      refine ih _ _ _ (by omega) (fun q hq => ?_) j hj
      by_cases cq : q = e
      · rw [cq, va_up_self]
        exact Or.inr ((nI_leI (a := 0) (b := i) (by decide) (by omega)).mpr (Nat.zero_le _))
      · rw [va_up_ne _ _ cq]
        exact h q hq
end PLS
section MTO
variable {o N : Nat} {w : Int32 × Int32 × Int32} {L : Nat → Nat → Int64} {E : Ed} {ml pl : Nat → Int32}
/-- the reference's row of places -/
def Pl16 (I : Nat → Nat → Int32) (N : Nat) (ml : Nat → Int32) : Prop := ∀ j, 1 ≤ j → j ≤ N → I 16 j = ml j ∧ (ml j = -1 ∨ 0 ≤ ml j)
theorem Mo_pl_6 (hN : N ≤ 40) (hA : Aok E N) (hP : PlOk E N ml pl) : ∀ (b f : Nat) (σ : Hp) (I : Nat → Nat → Int32), f ≤ b → f ≤ N → MoR σ o w I L → MoE I L E N → Pl16 I N ml → ∃ σ1 q, fMo_placeOf_6 (some o) (nI f) σ = some (some (sI (if f = 0 then 100 else if ml f = -1 then pl f else ml f)), σ1) ∧ MoR σ1 o w (va_up I 14 q) L ∧ FrM o σ σ1 := by
  intro b
  induction b with
  | zero =>
    intro f σ I hb hf h hE hM
    have : f = 0 := by omega
    subst this
    refine ⟨σ, I 14, ?_, by rw [up_id rfl]; exact h, FrM.rf o σ⟩
    rw [eMo_placeOf_6, if_pos (show nI 0 ≤ 0 by decide), eMo_placeOf_28, if_neg (show ¬ ¬ nI 0 = 0 by decide), eMo_placeOf_43, if_pos rfl]
  | succ b ih =>
    intro f σ I hb hf h hE hM
    by_cases c : f = 0
    · subst c
      refine ⟨σ, I 14, ?_, by rw [up_id rfl]; exact h, FrM.rf o σ⟩
      rw [eMo_placeOf_6, if_pos (show nI 0 ≤ 0 by decide), eMo_placeOf_28, if_neg (show ¬ ¬ nI 0 = 0 by decide), eMo_placeOf_43, if_pos rfl]
    · have n0 : ¬ nI f ≤ 0 := fun q => c ((nIle0 (by omega)).mp q)
      have n1 : ¬ nI f = 0 := fun q => c ((nI0 (by omega)).mp q)
      obtain ⟨m1, m2⟩ := hM f (by omega) hf
      rw [eMo_placeOf_6, if_neg n0, if_neg c]
      simp only [h.f17, h.g16 (show f < 41 by omega), m1, Option.bind_some, h.rc]
      by_cases c2 : 0 ≤ ml f
      · have c3 : ¬ ml f = -1 := fun q => by
          rw [q] at c2
          exact absurd c2 (by decide)
        rw [if_pos c2, if_neg c3]
        refine ⟨σ, I 14, ?_, by rw [up_id rfl]; exact h, FrM.rf o σ⟩
        rw [eMo_placeOf_28, if_pos n1]
        simp only [h.f17, h.g16 (show f < 41 by omega), m1, Option.bind_some, eMo_placeOf_43]
      · have c3 : ml f = -1 := by
          rcases m2 with q | q
          · exact q
          · exact absurd q c2
        rw [if_neg c2, if_pos c3]
        obtain ⟨a1, a2, a3⟩ := hA f (by omega) hf
        obtain ⟨σ1, f1, w1, v1, fr1⟩ := Mo_levelsOf hN hA (by omega) hf h hE
        simp only [w1, Option.bind_some]
        obtain ⟨σ2, f2, w2, v2, fr2⟩ := ih (eA E f 1) σ1 _ (by omega) (by omega) v1 (hE.up (by decide)) (fun j j1 j2 => by rw [va_up_ne _ _ (show 16 ≠ 14 by decide)]; exact hM j j1 j2)
        rw [up_up] at v2
        refine ⟨σ2, f2, ?_, v2, fr1.tr fr2⟩
        rw [w2, hP f (by omega) hf]
        rfl
theorem Mo_placeOf {σ : Hp} {I : Nat → Nat → Int32} (hN : N ≤ 40) (hA : Aok E N) (hP : PlOk E N ml pl) {n : Nat} (h1 : 1 ≤ n) (h2 : n ≤ N) (h : MoR σ o w I L) (hE : MoE I L E N) (hM : Pl16 I N ml) : ∃ σ1 q, cI rF nMo_placeOf [sA (some o), sI (nI n)] σ = some (pl n, σ1) ∧ MoR σ1 o w (va_up I 14 q) L ∧ FrM o σ σ1 := by
  obtain ⟨a1, a2, a3⟩ := hA n h1 h2
  obtain ⟨σ1, f1, w1, v1, fr1⟩ := Mo_levelsOf hN hA h1 h2 h hE
  obtain ⟨σ2, f2, w2, v2, fr2⟩ := Mo_pl_6 (o := o) (w := w) (L := L) hN hA hP N (eA E n 1) σ1 _ (by omega) (by omega) v1 (hE.up (by decide)) (fun j j1 j2 => by rw [va_up_ne _ _ (show 16 ≠ 14 by decide)]; exact hM j j1 j2)
  rw [up_up] at v2
  refine ⟨σ2, f2, cI_of ((eMo_placeOf _ _ σ).trans ?_), v2, fr1.tr fr2⟩
  simp only [h.rc, w1, Option.bind_some]
  rw [w2, hP n h1 h2]
  rfl
theorem Mo_to_27 (hN : N ≤ 40) (hA : Aok E N) (hP : PlOk E N ml pl) {m : Int64} (hS : Sok E N m) (x : Int32) : ∀ (d n b : Nat) (σ : Hp) (I : Nat → Nat → Int32), 1 ≤ n → n + d = 41 → b < n → b ≤ N → MoR σ o w I L → MoE I L E N → Pl16 I N ml → ∃ σ1 f, fMo_tryOthers_27 (some o) m x (nI b) (rk pl b) (nI n) σ = fMo_tryOthers_27 (some o) m x (nI (nxo E pl m n (N + 1 - n) b)) (rk pl (nxo E pl m n (N + 1 - n) b)) (nI 41) σ1 ∧ MoR σ1 o w (va_up I 14 f) L ∧ FrM o σ σ1 := by
  intro d
  induction d with
  | zero =>
    intro n b σ I h1 hn hb1 hb2 h hE hM
    have : n = 41 := by omega
    subst this
    have e0 : N + 1 - 41 = 0 := by omega
    rw [e0]
    exact ⟨σ, I 14, rfl, by rw [up_id rfl]; exact h, FrM.rf o σ⟩
  | succ d ih =>
    intro n b σ I h1 hn hb1 hb2 h hE hM
    rw [eMo_tryOthers_27, if_neg (i41 (show n < 41 by omega))]
    simp only [Mo_has (show n < 64 by omega), Option.bind_some, eMo_tryOthers_89, eMo_tryOthers_81, nI1]
    cases hx : hb m n
    · have hst : nxo E pl m n (N + 1 - n) b = nxo E pl m (n + 1) (N + 1 - (n + 1)) b := by
        by_cases c : n ≤ N
        · have e : N + 1 - n = (N + 1 - (n + 1)) + 1 := by omega
          rw [e]
          show nxo E pl m (n + 1) (N + 1 - (n + 1)) (if hb m n = true then _ else b) = _
          rw [hx, if_neg (by decide)]
        · have e : N + 1 - n = 0 := by omega
          have e2 : N + 1 - (n + 1) = 0 := by omega
          rw [e, e2]
          rfl
      rw [hst, if_neg (show ¬ (false = true) by decide), if_pos rfl]
      exact ih (n + 1) b σ I (by omega) (by omega) (by omega) hb2 h hE hM
    · obtain ⟨e1, e2, e3, e4, e5, e6, e7, e8, e9⟩ := hS n hx
      have e : N + 1 - n = (N + 1 - (n + 1)) + 1 := by omega
      have hst : nxo E pl m n (N + 1 - n) b = nxo E pl m (n + 1) (N + 1 - (n + 1)) (if b = 0 then n else if frb E pl n b = 0 then b else n) := by
        rw [e]
        show nxo E pl m (n + 1) (N + 1 - (n + 1)) (if hb m n = true then _ else b) = _
        rw [if_pos hx]
      rw [hst, if_pos rfl, if_neg (show ¬ ((1 : Int32) = 0) by decide)]
      obtain ⟨σ1, f, w1, v1, f1⟩ := Mo_placeOf hN hA hP e1 e2 h hE hM
      have hE1 : MoE (va_up I 14 f) L E N := hE.up (by decide)
      have hM1 : Pl16 (va_up I 14 f) N ml := fun j j1 j2 => by rw [va_up_ne _ _ (show 16 ≠ 14 by decide)]; exact hM j j1 j2
      simp only [h.rc, w1, Option.bind_some, v1.rc]
      have go : ∀ b2, b2 < n + 1 → b2 ≤ N → ∃ σ1' f', fMo_tryOthers_27 (some o) m x (nI b2) (rk pl b2) (nI (n + 1)) σ1 = fMo_tryOthers_27 (some o) m x (nI (nxo E pl m (n + 1) (N + 1 - (n + 1)) b2)) (rk pl (nxo E pl m (n + 1) (N + 1 - (n + 1)) b2)) (nI 41) σ1' ∧ MoR σ1' o w (va_up I 14 f') L ∧ FrM o σ σ1' := by
        intro b2 q1 q2
        obtain ⟨σ2, f2, w2, v2, fr2⟩ := ih (n + 1) b2 σ1 _ (by omega) (by omega) q1 q2 v1 hE1 hM1
        rw [up_up] at v2
        exact ⟨σ2, f2, w2, v2, f1.tr fr2⟩
      by_cases c2 : b = 0
      · rw [if_pos ((nI0 (by omega)).mpr c2), if_pos c2]
        have := go n (by omega) e2
        rw [rk_n _ (show n ≠ 0 by omega)] at this
        exact this
      · have nb : ¬ nI b = 0 := fun q => c2 ((nI0 (by omega)).mp q)
        rw [if_neg nb, if_neg c2]
        rw [rk_n _ c2]
        unfold frb
        by_cases c3 : pl b < pl n
        · rw [if_pos c3, if_pos c3, if_neg (show ¬ ((1 : Int32) = 0) by decide)]
          have := go n (by omega) e2
          rw [rk_n _ (show n ≠ 0 by omega)] at this
          exact this
        · rw [if_neg c3, if_neg c3]
          by_cases c4 : pl n = pl b
          · have n4 : ¬ ¬ pl n = pl b := fun q => q c4
            rw [if_neg n4, if_neg n4]
            have hb1' : 1 ≤ b := by omega
            simp only [Mo_sooner hN v1 hE1 hb1' hb1 e2, Option.bind_some]
            by_cases c5 : eM E b ≤ eM E n
            · simp only [if_pos c5, if_true]
              have := go b (by omega) hb2
              rw [rk_n _ c2] at this
              exact this
            · have z1 : ¬ ((1 : Int32) = 0) := by decide
              simp only [if_neg c5, if_neg z1]
              have := go n (by omega) e2
              rw [rk_n _ (show n ≠ 0 by omega)] at this
              exact this
          · rw [if_pos c4, if_pos c4, if_pos rfl]
            have := go b (by omega) hb2
            rw [rk_n _ c2] at this
            exact this
theorem Mo_to_5 (hN : N ≤ 40) (hA : Aok E N) (hP : PlOk E N ml pl) (hs1 : eS E 1 = 0) : ∀ (d i : Nat) (m : Int64) (σ : Hp) (I : Nat → Nat → Int32) (gR : Nat → Nat), i + d = 41 → Sok E N m → MoR σ o w I L → MoE I L E N → Pl16 I N ml → gle gR N → (gR 0 = 0 ∨ gR 0 = 1) → (∀ j, j < 9 → I 12 j = nI (gR j)) → ∃ σ1 I1, fMo_tryOthers_5 (some o) m (nI i) σ = some (none, σ1) ∧ MoR σ1 o w I1 L ∧ (∀ k, k ≠ 12 → k ≠ 13 → k ≠ 14 → I1 k = I k) ∧ (∀ j, j < 9 → I1 12 j = nI (ol2 E N pl d m gR j)) ∧ gle (ol2 E N pl d m gR) N ∧ ol2 E N pl d m gR 0 = gR 0 ∧ FrM o σ σ1 := by
  intro d
  induction d with
  | zero =>
    intro i m σ I gR hi hS h hE hM hR h0 h12
    have : i = 41 := by omega
    subst this
    refine ⟨σ, I, ?_, h, fun _ _ _ _ => rfl, h12, hR, rfl, FrM.rf o σ⟩
    rw [eMo_tryOthers_5, if_pos (show (41 : Int32) ≤ nI 41 by decide), eMo_tryOthers_118]
  | succ d ih =>
    intro i m σ I gR hi hS h hE hM hR h0 h12
    rw [eMo_tryOthers_5, if_neg (i41 (show i < 41 by omega)), eMo_tryOthers_118]
    have hu : ol2 E N pl (d + 1) m gR = if lg_cmp m 0 = 0 then gR else ol2 E N pl d (m &&& (bitN (nxo E pl m 1 N 0) ^^^ (-1))) (tr2 E gR (nxo E pl m 1 N 0)) := rfl
    by_cases c : lg_cmp m 0 = 0
    · rw [hu, if_pos c, if_pos c]
      exact ⟨σ, I, rfl, h, fun _ _ _ _ => rfl, h12, hR, rfl, FrM.rf o σ⟩
    · rw [hu, if_neg c, if_neg c]
      obtain ⟨np, nm⟩ := nxo_ok (E := E) (pl := pl) hS.in c
      obtain ⟨e1, e2, e3, e4, e5, e6, e7, e8, e9⟩ := hS _ nm
      obtain ⟨σ1, f, w1, v1, f1⟩ := Mo_to_27 (o := o) (w := w) (L := L) hN hA hP hS (nI i) 40 1 0 σ I (Nat.le_refl _) (by omega) (by omega) (by omega) h hE hM
      have en : N + 1 - 1 = N := by omega
      rw [en] at w1
      have hE1 : MoE (va_up I 14 f) L E N := hE.up (by decide)
      have hg0 : gtr E gR (nxo E pl m 1 N 0) 0 = 0 ∨ gtr E gR (nxo E pl m 1 N 0) 0 = 1 := by
        unfold gtr
        split
        · exact Or.inr e5
        · exact h0
      obtain ⟨σ2, I2, w2, v2, k2, r2, f2⟩ := Mo_tryIt hN e1 e2 e3 e4 hR v1 hE1 (fun j hj => by rw [va_up_ne _ _ (by decide)]; exact h12 j hj) hg0 hs1 e6 e7 e8 e9
      have hE2 : MoE I2 L E N := hE1.of (fun k hk => k2 k (by omega) (by omega) (by omega))
      have hM2 : Pl16 I2 N ml := fun j j1 j2 => by
        rw [k2 16 (by decide) (by decide) (by decide), va_up_ne _ _ (show 16 ≠ 14 by decide)]
        exact hM j j1 j2
      have t0 := tr2_0 (E := E) (g := gR) e6
      obtain ⟨σ3, I3, w3, v3, k3, r3, g3, z3, f3⟩ := ih (i + 1) (m &&& (bitN (nxo E pl m 1 N 0) ^^^ (-1))) σ2 I2 (tr2 E gR (nxo E pl m 1 N 0)) (by omega) (hS.rm (by omega)) v2 hE2 hM2 (tr2_gle hR e2) (by rw [t0]; exact h0) r2
      refine ⟨σ3, I3, ?_, v3, fun k a1 a2 a3 => ?_, r3, g3, z3.trans t0, (f1.tr f2).tr f3⟩
      · refine Eq.trans (show fMo_tryOthers_27 (some o) m (nI i) (0 : Int32) (0 : Int32) (1 : Int32) σ = _ from w1) ?_
        rw [eMo_tryOthers_27, if_pos (show (41 : Int32) ≤ nI 41 by decide)]
        simp only [v1.rc, w2, Option.bind_some, nI1]
        exact w3
      · rw [k3 k a1 a2 a3, k2 k a1 a2 a3, va_up_ne _ _ a3]
theorem Mo_tryOthers {m : Int64} {σ : Hp} {I : Nat → Nat → Int32} {gR : Nat → Nat} (hN : N ≤ 40) (hA : Aok E N) (hP : PlOk E N ml pl) (hs1 : eS E 1 = 0) (hS : Sok E N m) (h : MoR σ o w I L) (hE : MoE I L E N) (hM : Pl16 I N ml) (hR : gle gR N) (h0 : gR 0 = 0 ∨ gR 0 = 1) (h12 : ∀ j, j < 9 → I 12 j = nI (gR j)) : ∃ σ1 I1, cV rF nMo_tryOthers [sA (some o), sJ m] σ = some σ1 ∧ MoR σ1 o w I1 L ∧ (∀ k, k ≠ 12 → k ≠ 13 → k ≠ 14 → I1 k = I k) ∧ (∀ j, j < 9 → I1 12 j = nI (ol2 E N pl 41 m gR j)) ∧ gle (ol2 E N pl 41 m gR) N ∧ ol2 E N pl 41 m gR 0 = gR 0 ∧ FrM o σ σ1 := by
  obtain ⟨σ1, I1, w1, r⟩ := Mo_to_5 (o := o) (w := w) (L := L) hN hA hP hs1 41 0 m σ I gR rfl hS h hE hM hR h0 h12
  exact ⟨σ1, I1, cV_of ((eMo_tryOthers _ _ σ).trans w1), r⟩
end MTO
