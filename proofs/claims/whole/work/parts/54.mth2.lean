/-! The reference's sooner, tryHeavy, levelsOf, mainline, placeOf, tryOthers. -/
theorem MoE.of {I I1 : Nat → Nat → Int32} {L : Nat → Nat → Int64} {E : Ed} {N : Nat} (h : MoE I L E N) (hI : ∀ k, k ≤ 6 → I1 k = I k) : MoE I1 L E N := by
  intro n h1 h2
  have := h n h1 h2
  rw [hI 2 (by decide), hI 3 (by decide), hI 4 (by decide), hI 5 (by decide), hI 6 (by decide)]
  exact this
def rk (f : Nat → Int32) (b : Nat) : Int32 := if b = 0 then 0 else f b
theorem rk_n (f : Nat → Int32) {b : Nat} (h : b ≠ 0) : rk f b = f b := if_neg h
section MTH
variable {o N : Nat} {w : Int32 × Int32 × Int32} {L : Nat → Nat → Int64} {E : Ed}
theorem Mo_sooner {σ : Hp} {I : Nat → Nat → Int32} (hN : N ≤ 40) (h : MoR σ o w I L) (hE : MoE I L E N) {a b : Nat} (b1 : 1 ≤ b) (hba : b < a) (a2 : a ≤ N) : cI rF nMo_sooner [sA (some o), sI (nI a), sI (nI b)] σ = some (if eM E b ≤ eM E a then 0 else 1, σ) := by
  refine cI_of ((eMo_sooner _ _ _ σ).trans ?_)
  have q : nI b ≤ nI a := (nI_leI (by omega) (by omega)).mpr (by omega)
  simp only [h.f7, h.g6 (show a < 41 by omega), h.g6 (show b < 41 by omega), (hE a (by omega) a2).2.2.2.2.1, (hE b b1 (by omega)).2.2.2.2.1, Option.bind_some, eMo_sooner_35, eMo_sooner_39, eMo_sooner_40, rz_0, rz_1, if_pos q]
  by_cases c : eM E a < eM E b
  · have c2 : ¬ eM E b ≤ eM E a := fun q => Int32.lt_irrefl (Int32.lt_of_le_of_lt q c)
    rw [if_pos c, if_neg c2]
  · have c2 : eM E b ≤ eM E a := Int32.not_lt.mp c
    rw [if_neg c, if_pos c2]
    split <;> rfl
theorem Mo_th_27 (hN : N ≤ 40) (hs1 : eS E 1 = 0) {m : Int64} (hS : Sok E N m) (x : Int32) : ∀ (d n b : Nat) (σ : Hp) (I : Nat → Nat → Int32), 1 ≤ n → n + d = 41 → b < n → b ≤ N → MoR σ o w I L → MoE I L E N → ∃ σ1 f, fMo_tryHeavy_27 (some o) m x (nI b) (rk (slv E) b) (nI n) σ = fMo_tryHeavy_27 (some o) m x (nI (nxh E m n (N + 1 - n) b)) (rk (slv E) (nxh E m n (N + 1 - n) b)) (nI 41) σ1 ∧ MoR σ1 o w (va_up I 14 f) L ∧ FrM o σ σ1 := by
  intro d
  induction d with
  | zero =>
    intro n b σ I h1 hn hb1 hb2 h hE
    have : n = 41 := by omega
    subst this
    have e0 : N + 1 - 41 = 0 := by omega
    rw [e0]
    exact ⟨σ, I 14, rfl, by rw [up_id rfl]; exact h, FrM.rf o σ⟩
  | succ d ih =>
    intro n b σ I h1 hn hb1 hb2 h hE
    rw [eMo_tryHeavy_27, if_neg (i41 (show n < 41 by omega))]
    simp only [Mo_has (show n < 64 by omega), Option.bind_some, eMo_tryHeavy_103, eMo_tryHeavy_95, nI1]
    cases hx : hb m n
    · have hst : nxh E m n (N + 1 - n) b = nxh E m (n + 1) (N + 1 - (n + 1)) b := by
        by_cases c : n ≤ N
        · have e : N + 1 - n = (N + 1 - (n + 1)) + 1 := by omega
          rw [e]
          show nxh E m (n + 1) (N + 1 - (n + 1)) (if hb m n = true then _ else b) = _
          rw [hx, if_neg (by decide)]
        · have e : N + 1 - n = 0 := by omega
          have e2 : N + 1 - (n + 1) = 0 := by omega
          rw [e, e2]
          rfl
      rw [hst, if_neg (show ¬ (false = true) by decide), if_pos rfl]
      exact ih (n + 1) b σ I (by omega) (by omega) (by omega) hb2 h hE
    · obtain ⟨e1, e2, e3, e4, e5, e6, e7, e8, e9⟩ := hS n hx
      have e : N + 1 - n = (N + 1 - (n + 1)) + 1 := by omega
      have hst : nxh E m n (N + 1 - n) b = nxh E m (n + 1) (N + 1 - (n + 1)) (if ¬ lg_cmp (eC E n &&& m) 0 = 0 then b else if b = 0 then n else if mwt E n b = 0 then b else n) := by
        rw [e]
        show nxh E m (n + 1) (N + 1 - (n + 1)) (if hb m n = true then _ else b) = _
        rw [if_pos hx]
      rw [hst, if_pos rfl, if_neg (show ¬ ((1 : Int32) = 0) by decide)]
      simp only [h.f10, h.g9 (show n < 41 by omega), (hE n e1 e2).2.2.2.2.2.2.2, Option.bind_some, h.rc]
      by_cases c1 : lg_cmp (eC E n &&& m) 0 = 0
      · have n1 : ¬ ¬ lg_cmp (eC E n &&& m) 0 = 0 := fun q => q c1
        rw [if_neg n1, if_neg n1]
        obtain ⟨σ1, f, w1, v1, f1⟩ := Mo_standing hN e1 e2 e3 e4 h hE e5 hs1 e8
        have hE1 : MoE (va_up I 14 f) L E N := hE.up (by decide)
        simp only [w1, Option.bind_some, v1.rc]
        have go : ∀ b2, b2 < n + 1 → b2 ≤ N → ∃ σ1' f', fMo_tryHeavy_27 (some o) m x (nI b2) (rk (slv E) b2) (nI (n + 1)) σ1 = fMo_tryHeavy_27 (some o) m x (nI (nxh E m (n + 1) (N + 1 - (n + 1)) b2)) (rk (slv E) (nxh E m (n + 1) (N + 1 - (n + 1)) b2)) (nI 41) σ1' ∧ MoR σ1' o w (va_up I 14 f') L ∧ FrM o σ σ1' := by
          intro b2 q1 q2
          obtain ⟨σ2, f2, w2, v2, fr2⟩ := ih (n + 1) b2 σ1 _ (by omega) (by omega) q1 q2 v1 hE1
          rw [up_up] at v2
          exact ⟨σ2, f2, w2, v2, f1.tr fr2⟩
        by_cases c2 : b = 0
        · rw [if_pos ((nI0 (by omega)).mpr c2), if_pos c2]
          have := go n (by omega) e2
          rw [rk_n _ (show n ≠ 0 by omega)] at this
          exact this
        · have nb : ¬ nI b = 0 := fun q => c2 ((nI0 (by omega)).mp q)
          rw [if_neg nb, if_neg c2]
          rw [rk_n _ c2]
          unfold mwt
          by_cases c3 : slv E b < slv E n
          · rw [if_pos c3, if_pos c3, if_neg (show ¬ ((1 : Int32) = 0) by decide)]
            have := go n (by omega) e2
            rw [rk_n _ (show n ≠ 0 by omega)] at this
            exact this
          · rw [if_neg c3, if_neg c3]
            by_cases c4 : slv E n = slv E b
            · have n4 : ¬ ¬ slv E n = slv E b := fun q => q c4
              rw [if_neg n4, if_neg n4]
              have hb1' : 1 ≤ b := by omega
              simp only [Mo_sooner hN v1 hE1 hb1' hb1 e2, Option.bind_some]
              by_cases c5 : eM E b ≤ eM E n
              · simp only [if_pos c5, if_true]
                have := go b (by omega) hb2
                rw [rk_n _ c2] at this
                exact this
              · have z1 : ¬ ((1 : Int32) = 0) := by decide
                simp only [if_neg c5, if_neg z1]
                have := go n (by omega) e2
                rw [rk_n _ (show n ≠ 0 by omega)] at this
                exact this
            · rw [if_pos c4, if_pos c4, if_pos rfl]
              have := go b (by omega) hb2
              rw [rk_n _ c2] at this
              exact this
      · rw [if_pos c1, if_pos c1]
        exact ih (n + 1) b σ I (by omega) (by omega) (by omega) hb2 h hE
theorem Mo_th_5 (hN : N ≤ 40) (hL : Lss E N) (hs1 : eS E 1 = 0) : ∀ (d i : Nat) (m : Int64) (σ : Hp) (I : Nat → Nat → Int32) (gR : Nat → Nat), i + d = 41 → Sok E N m → MoR σ o w I L → MoE I L E N → gle gR N → (gR 0 = 0 ∨ gR 0 = 1) → (∀ j, j < 9 → I 12 j = nI (gR j)) → ∃ σ1 I1, fMo_tryHeavy_5 (some o) m (nI i) σ = some (none, σ1) ∧ MoR σ1 o w I1 L ∧ (∀ k, k ≠ 12 → k ≠ 13 → k ≠ 14 → I1 k = I k) ∧ (∀ j, j < 9 → I1 12 j = nI (hl2 E N d m gR j)) ∧ gle (hl2 E N d m gR) N ∧ hl2 E N d m gR 0 = gR 0 ∧ FrM o σ σ1 := by
  intro d
  induction d with
  | zero =>
    intro i m σ I gR hi hS h hE hR h0 h12
    have : i = 41 := by omega
    subst this
    refine ⟨σ, I, ?_, h, fun _ _ _ _ => rfl, h12, hR, rfl, FrM.rf o σ⟩
    rw [eMo_tryHeavy_5, if_pos (show (41 : Int32) ≤ nI 41 by decide), eMo_tryHeavy_132]
  | succ d ih =>
    intro i m σ I gR hi hS h hE hR h0 h12
    rw [eMo_tryHeavy_5, if_neg (i41 (show i < 41 by omega)), eMo_tryHeavy_132]
    have hu : hl2 E N (d + 1) m gR = if lg_cmp m 0 = 0 then gR else hl2 E N d (m &&& (bitN (nxh E m 1 N 0) ^^^ (-1))) (tr2 E gR (nxh E m 1 N 0)) := rfl
    by_cases c : lg_cmp m 0 = 0
    · rw [hu, if_pos c, if_pos c]
      exact ⟨σ, I, rfl, h, fun _ _ _ _ => rfl, h12, hR, rfl, FrM.rf o σ⟩
    · rw [hu, if_neg c, if_neg c]
      obtain ⟨np, nm⟩ := nxh_ok hN hL hS.in c
      obtain ⟨e1, e2, e3, e4, e5, e6, e7, e8, e9⟩ := hS _ nm
      obtain ⟨σ1, f, w1, v1, f1⟩ := Mo_th_27 (o := o) (w := w) (L := L) hN hs1 hS (nI i) 40 1 0 σ I (Nat.le_refl _) (by omega) (by omega) (by omega) h hE
      have en : N + 1 - 1 = N := by omega
      rw [en] at w1
      have hE1 : MoE (va_up I 14 f) L E N := hE.up (by decide)
      have hg0 : gtr E gR (nxh E m 1 N 0) 0 = 0 ∨ gtr E gR (nxh E m 1 N 0) 0 = 1 := by
        unfold gtr
        split
        · exact Or.inr e5
        · exact h0
      obtain ⟨σ2, I2, w2, v2, k2, r2, f2⟩ := Mo_tryIt hN e1 e2 e3 e4 hR v1 hE1 (fun j hj => by rw [va_up_ne _ _ (by decide)]; exact h12 j hj) hg0 hs1 e6 e7 e8 e9
      have hE2 : MoE I2 L E N := hE1.of (fun k hk => k2 k (by omega) (by omega) (by omega))
      have t0 := tr2_0 (E := E) (g := gR) e6
      obtain ⟨σ3, I3, w3, v3, k3, r3, g3, z3, f3⟩ := ih (i + 1) (m &&& (bitN (nxh E m 1 N 0) ^^^ (-1))) σ2 I2 (tr2 E gR (nxh E m 1 N 0)) (by omega) (hS.rm (by omega)) v2 hE2 (tr2_gle hR e2) (by rw [t0]; exact h0) r2
      refine ⟨σ3, I3, ?_, v3, fun k a1 a2 a3 => ?_, r3, g3, z3.trans t0, (f1.tr f2).tr f3⟩
      · refine Eq.trans (show fMo_tryHeavy_27 (some o) m (nI i) (0 : Int32) (0 : Int32) (1 : Int32) σ = _ from w1) ?_
        rw [eMo_tryHeavy_27, if_pos (show (41 : Int32) ≤ nI 41 by decide)]
        simp only [v1.rc, w2, Option.bind_some, nI1]
        exact w3
      · rw [k3 k a1 a2 a3, k2 k a1 a2 a3, va_up_ne _ _ a3]
theorem Mo_tryHeavy {m : Int64} {σ : Hp} {I : Nat → Nat → Int32} {gR : Nat → Nat} (hN : N ≤ 40) (hL : Lss E N) (hs1 : eS E 1 = 0) (hS : Sok E N m) (h : MoR σ o w I L) (hE : MoE I L E N) (hR : gle gR N) (h0 : gR 0 = 0 ∨ gR 0 = 1) (h12 : ∀ j, j < 9 → I 12 j = nI (gR j)) : ∃ σ1 I1, cV rF nMo_tryHeavy [sA (some o), sJ m] σ = some σ1 ∧ MoR σ1 o w I1 L ∧ (∀ k, k ≠ 12 → k ≠ 13 → k ≠ 14 → I1 k = I k) ∧ (∀ j, j < 9 → I1 12 j = nI (hl2 E N 41 m gR j)) ∧ gle (hl2 E N 41 m gR) N ∧ hl2 E N 41 m gR 0 = gR 0 ∧ FrM o σ σ1 := by
  obtain ⟨σ1, I1, w1, r⟩ := Mo_th_5 (o := o) (w := w) (L := L) hN hL hs1 41 0 m σ I gR rfl hS h hE hR h0 h12
  exact ⟨σ1, I1, cV_of ((eMo_tryHeavy _ _ σ).trans w1), r⟩
/-- an event's auths: as a set, by key, lesser numbers -/
def Aok (E : Ed) (N : Nat) : Prop := ∀ n, 1 ≤ n → n ≤ N → AuI E N n ∧ gle (eA E n) N ∧ eA E n 1 < n
theorem Mo_levelsOf {σ : Hp} {I : Nat → Nat → Int32} {e : Nat} (hN : N ≤ 40) (hA : Aok E N) (h1 : 1 ≤ e) (h2 : e ≤ N) (h : MoR σ o w I L) (hE : MoE I L E N) : ∃ σ1 f, cI rF nMo_levelsOf [sA (some o), sI (nI e)] σ = some (nI (eA E e 1), σ1) ∧ MoR σ1 o w (va_up I 14 f) L ∧ FrM o σ σ1 := by
  obtain ⟨a1, a2, a3⟩ := hA e h1 h2
  obtain ⟨σ1, f1, w1, v1, e1, fr1⟩ := Mo_gather hN (by omega) a1 a2 h hE (hE e h1 h2).2.2.2.2.2.2.1
  refine ⟨σ1, f1, cI_of ((eMo_levelsOf _ _ σ).trans ?_), v1, fr1⟩
  have g1 : alI σ1 (some (o + 14)) (1 : Int32) = some (nI (eA E e 1)) := by
    have := v1.g14 (show 1 < 9 by decide)
    rw [va_up_self, e1 1 (by decide)] at this
    exact this
  simp only [h.rc, w1, v1.f15, g1, Option.bind_some]
theorem Mo_main_2 : ∀ (d i : Nat) (σ : Hp) (I : Nat → Nat → Int32), i + d = 41 → MoR σ o w I L → (∀ j, j < i → I 16 j = -1) → ∃ σ1 f, fMo_mainline_2 (some o) (nI i) σ = fMo_mainline_2 (some o) (nI 41) σ1 ∧ MoR σ1 o w (va_up I 16 f) L ∧ (∀ j, j < 41 → f j = -1) ∧ FrM o σ σ1 := by
  intro d
  induction d with
  | zero =>
    intro i σ I hi h h0
    have : i = 41 := by omega
    subst this
    exact ⟨σ, I 16, rfl, by rw [up_id rfl]; exact h, h0, FrM.rf o σ⟩
  | succ d ih =>
    intro i σ I hi h h0
    have hi9 : i < 41 := by omega
    obtain ⟨σ1, w1, v1, f1⟩ := h.wI 16 (by decide) (by decide) (fun J => rfl) (show i < mlen 16 from hi9) (-1)
    obtain ⟨σ2, f, w2, v2, e2, f2⟩ := ih (i + 1) σ1 _ (by omega) v1 (fun j hj => by
      rw [va_up_self]
      by_cases c : j = i
      · rw [c, va_up_self]
      · rw [va_up_ne _ _ c]
        exact h0 j (by omega))
    refine ⟨σ2, f, ?_, by rw [up_up] at v2; exact v2, e2, f1.tr f2⟩
    rw [eMo_mainline_2, if_neg (i41 hi9)]
    simp only [h.f17, w1, Option.bind_some, nI1, w2]
theorem Mo_main_30 (hN : N ≤ 40) (hA : Aok E N) : ∀ (d i e : Nat) (σ : Hp) (I : Nat → Nat → Int32), i + d = 41 → e ≤ N → MoR σ o w I L → MoE I L E N → ∃ σ1 f, fMo_mainline_30 (some o) (nI e) (nI i) σ = some (none, σ1) ∧ MoR σ1 o w (va_up (va_up I 16 (mln E d i e (I 16))) 14 f) L ∧ FrM o σ σ1 := by
  intro d
  induction d with
  | zero =>
    intro i e σ I hi he h hE
    have : i = 41 := by omega
    subst this
    refine ⟨σ, I 14, ?_, ?_, FrM.rf o σ⟩
    · rw [eMo_mainline_30, if_pos (show (41 : Int32) ≤ nI 41 by decide), eMo_mainline_59]
    · show MoR σ o w (va_up (va_up I 16 (I 16)) 14 (I 14)) L
      rw [up_id (f := I) (a := 16) rfl, up_id rfl]
      exact h
  | succ d ih =>
    intro i e σ I hi he h hE
    rw [eMo_mainline_30, if_neg (i41 (show i < 41 by omega)), eMo_mainline_59]
    have hu : mln E (d + 1) i e (I 16) = if e = 0 then I 16 else mln E d (i + 1) (eA E e 1) (va_up (I 16) e (nI i)) := rfl
    by_cases c : e = 0
    · rw [hu, if_pos c, if_pos ((nIle0 (by omega)).mpr c)]
      refine ⟨σ, I 14, rfl, ?_, FrM.rf o σ⟩
      rw [up_id (f := I) (a := 16) rfl, up_id rfl]
      exact h
    · have nc : ¬ nI e ≤ 0 := fun q => c ((nIle0 (by omega)).mp q)
      rw [hu, if_neg c, if_neg nc]
      obtain ⟨a1, a2, a3⟩ := hA e (by omega) he
      obtain ⟨σ1, w1, v1, f1⟩ := h.wI 16 (by decide) (by decide) (fun J => rfl) (show e < mlen 16 from (by show e < 41; omega)) (nI i)
      have hE1 : MoE (va_up I 16 (va_up (I 16) e (nI i))) L E N := hE.up (by decide)
      obtain ⟨σ2, f2, w2, v2, fr2⟩ := Mo_levelsOf hN hA (by omega) he v1 hE1
      obtain ⟨σ3, f3, w3, v3, fr3⟩ := ih (i + 1) (eA E e 1) σ2 _ (by omega) (by omega) v2 (hE1.up (by decide))
      refine ⟨σ3, f3, ?_, ?_, (f1.tr fr2).tr fr3⟩
      · simp only [h.f17, w1, v1.rc, w2, Option.bind_some, nI1, w3]
      · rw [va_up_ne _ _ (show 16 ≠ 14 by decide), va_up_self] at v3
        rw [up_comm _ _ _ (show 14 ≠ 16 by decide), up_up, up_up] at v3
        exact v3
theorem Mo_mainline {σ : Hp} {I : Nat → Nat → Int32} {g1 : Nat} (hN : N ≤ 40) (hA : Aok E N) (hg : g1 ≤ N) (h : MoR σ o w I L) (hE : MoE I L E N) (h12 : I 12 1 = nI g1) : ∃ σ1 f m0, cV rF nMo_mainline [sA (some o)] σ = some σ1 ∧ MoR σ1 o w (va_up (va_up I 16 (mln E 41 0 g1 m0)) 14 f) L ∧ (∀ j, j < 41 → m0 j = -1) ∧ FrM o σ σ1 := by
  obtain ⟨σ1, m0, w1, v1, e1, f1⟩ := Mo_main_2 (o := o) (w := w) (L := L) 41 0 σ I rfl h (fun j hj => by omega)
  obtain ⟨σ2, f2, w2, v2, fr2⟩ := Mo_main_30 (o := o) (w := w) (L := L) hN hA 41 0 g1 σ1 _ rfl hg v1 (hE.up (by decide))
  refine ⟨σ2, f2, m0, cV_of ((eMo_mainline _ σ).trans ((show fMo_mainline_2 (some o) (0 : Int32) σ = _ from w1).trans ?_)), ?_, e1, f1.tr fr2⟩
  · rw [eMo_mainline_2, if_pos (show (41 : Int32) ≤ nI 41 by decide)]
    have g1' : alI σ1 (some (o + 12)) (1 : Int32) = some (nI g1) := by
      have := v1.g12 (show 1 < 9 by decide)
      rw [va_up_ne _ _ (show 12 ≠ 16 by decide), h12] at this
      exact this
    simp only [v1.f13, g1', Option.bind_some]
    exact w2
  · rw [va_up_self, up_up] at v2
    exact v2
end MTH
