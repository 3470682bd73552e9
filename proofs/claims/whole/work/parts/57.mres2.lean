/-! The reference's resolve: the contested events, the answer. -/
theorem or_as (a b c d : Int64) : (a ||| b) ||| (c &&& d) = a ||| (b ||| (d &&& c)) := by
  refine hb_ext (fun n _ => ?_)
  simp only [hb_or, hb_and, Bool.or_assoc, Bool.and_comm]
theorem dsp_c {F : Nat → Nat} {a a' : Nat → Int32} (h : ∀ j, j < 9 → a j = a' j) : ∀ (d i : Nat) (m : Int64), i + d = 9 → dsp a F i d m = dsp a' F i d m := by
  intro d
  induction d with
  | zero => intro i m _; rfl
  | succ d ih =>
    intro i m hi
    show dsp a F (i + 1) d (if ¬ a i = 0 then m else if F i = 0 then m else m ||| bitN (F i)) = dsp a' F (i + 1) d (if ¬ a' i = 0 then m else if F i = 0 then m else m ||| bitN (F i))
    rw [h i (by omega), ih (i + 1) _ (by omega)]
theorem dsm_c {E : Ed} {S : Int64} {a a' : Nat → Int32} (h : ∀ j, j < 9 → a j = a' j) : ∀ (d n : Nat) (m : Int64), dsm E S a n d m = dsm E S a' n d m := by
  intro d
  induction d with
  | zero => intro n m; rfl
  | succ d ih =>
    intro n m
    show dsm E S a (n + 1) d (if hb S n = true then dsp a (eF E n) 0 9 m else m) = dsm E S a' (n + 1) d (if hb S n = true then dsp a' (eF E n) 0 9 m else m)
    rw [dsp_c h 9 0 m rfl, ih]
def agF (E : Ed) (N : Nat) (S : Int64) : Nat → Int32 := agm E S (fsd S 40 0) 1 N (fun _ => 1)
def gF0 (E : Ed) (N : Nat) (S : Int64) : Nat → Nat := fun j => if agF E N S j = 0 then 0 else eF E (fsd S 40 0) j
def fcM (E : Ed) (N : Nat) (S : Int64) : Int64 := dsm E S (agF E N S) 1 N ((sev E S 1 N (0, -1)).1 &&& ((sev E S 1 N (0, -1)).2 ^^^ (-1)))
def hwM (E : Ed) (N : Nat) (S : Int64) : Int64 := hwc E (fcM E N S) 1 N 0
def hlM (E : Ed) (N : Nat) (S : Int64) : Nat → Nat := hl2 E N 41 (hwM E N S) (gF0 E N S)
/-- the resolution's answer -/
def RsM (E : Ed) (N : Nat) (S : Int64) (pl : Nat → Int32) : Nat → Nat := fun j => if agF E N S j = 0 then ol2 E N pl 41 (fcM E N S &&& (hwM E N S ^^^ (-1))) (hlM E N S) j else eF E (fsd S 40 0) j
section MRU
variable {o N : Nat} {w : Int32 × Int32 × Int32} {I : Nat → Nat → Int32} {L : Nat → Nat → Int64} {E : Ed} {S : Int64} {σ : Hp}
theorem Mo_rs_223 (hN : N ≤ 40) {n F : Nat} (hx : hb S n = true) (hn1 : 1 ≤ n) (hn : n ≤ N) (h : MoR σ o w I L) (h11 : Mo11 I L E N) : ∀ (d i : Nat) (m : Int64), i + d = 9 → fMo_resolve_223 (some o) S m (nI F) (nI n) (nI i) σ = fMo_resolve_284 (some o) S (dsp (I 15) (eF E n) i d m) (nI F) (nI n) σ := by
  intro d
  induction d with
  | zero =>
    intro i m hi
    have : i = 9 := by omega
    subst this
    rw [eMo_resolve_223, if_pos (show (9 : Int32) ≤ nI 9 by decide)]
    rfl
  | succ d ih =>
    intro i m hi
    have hi9 : i < 9 := by omega
    obtain ⟨gn, rn⟩ := h11.1 n hn
    have l1 := gn i hi9
    rw [eMo_resolve_223, if_neg (i9 hi9)]
    simp only [Mo_has (show n < 64 by omega), Option.bind_some, if_pos hx, if_neg (show ¬ ((1 : Int32) = 0) by decide), h.f12, h.f16, h.g15 hi9, nI9, h.g11 (show 9 * n + i < 369 by omega), rn i hi9, eMo_resolve_278, nI1, nIle0 (show eF E n i < 2 ^ 31 by omega), ih (i + 1) _ (show i + 1 + d = 9 by omega)]
    show _ = fMo_resolve_284 (some o) S (dsp (I 15) (eF E n) (i + 1) d (if ¬ I 15 i = 0 then m else if eF E n i = 0 then m else m ||| bitN (eF E n i))) (nI F) (nI n) σ
    by_cases c : I 15 i = 0
    · have nc : ¬ ¬ I 15 i = 0 := fun q => q c
      rw [if_neg nc, if_neg nc]
      by_cases c2 : eF E n i = 0
      · rw [if_pos c2, if_pos c2]
      · rw [if_neg c2, if_neg c2]
        rfl
    · rw [if_pos c, if_pos c]
theorem Mo_rs_213 (hN : N ≤ 40) (hS : ∀ n, hb S n = true → 1 ≤ n ∧ n ≤ N) {F : Nat} (h : MoR σ o w I L) (h11 : Mo11 I L E N) : ∀ (d n : Nat) (m : Int64), 1 ≤ n → n + d = 41 → fMo_resolve_213 (some o) S m (nI F) (nI n) σ = fMo_resolve_296 (some o) (dsm E S (I 15) n (N + 1 - n) m) (nI F) (0 : Int64) (1 : Int32) σ := by
  intro d
  induction d with
  | zero =>
    intro n m h1 hn
    have : n = 41 := by omega
    subst this
    have e0 : N + 1 - 41 = 0 := by omega
    rw [e0, eMo_resolve_213, if_pos (show (41 : Int32) ≤ nI 41 by decide)]
    rfl
  | succ d ih =>
    intro n m h1 hn
    rw [eMo_resolve_213, if_neg (i41 (show n < 41 by omega))]
    cases hx : hb S n
    · have hst : dsm E S (I 15) n (N + 1 - n) m = dsm E S (I 15) (n + 1) (N + 1 - (n + 1)) m := by
        by_cases c : n ≤ N
        · have e : N + 1 - n = (N + 1 - (n + 1)) + 1 := by omega
          rw [e]
          show dsm E S (I 15) (n + 1) (N + 1 - (n + 1)) (if hb S n = true then _ else m) = _
          rw [hx, if_neg (by decide)]
        · have e : N + 1 - n = 0 := by omega
          have e2 : N + 1 - (n + 1) = 0 := by omega
          rw [e, e2]
          rfl
      rw [hst, eMo_resolve_223, if_neg (show ¬ (9 : Int32) ≤ 0 by decide)]
      simp only [Mo_has (show n < 64 by omega), Option.bind_some, hx, if_neg (show ¬ (false = true) by decide), if_true, eMo_resolve_284, nI1]
      exact ih (n + 1) m (by omega) (by omega)
    · obtain ⟨e1, e2⟩ := hS n hx
      have e : N + 1 - n = (N + 1 - (n + 1)) + 1 := by omega
      have hst : dsm E S (I 15) n (N + 1 - n) m = dsm E S (I 15) (n + 1) (N + 1 - (n + 1)) (dsp (I 15) (eF E n) 0 9 m) := by
        rw [e]
        show dsm E S (I 15) (n + 1) (N + 1 - (n + 1)) (if hb S n = true then _ else m) = _
        rw [if_pos hx]
      rw [hst]
      refine Eq.trans (show fMo_resolve_223 (some o) S m (nI F) (nI n) (0 : Int32) σ = _ from Mo_rs_223 hN hx e1 e2 h h11 9 0 m rfl) ?_
      rw [eMo_resolve_284, nI1]
      exact ih (n + 1) _ (by omega) (by omega)
theorem Mo_rs_296 (hN : N ≤ 40) {f : Int64} (hf : ∀ n, hb f n = true → 1 ≤ n ∧ n ≤ N ∧ eK E n ≤ 7) {F : Nat} (h : MoR σ o w I L) (hE : MoE I L E N) : ∀ (d n : Nat) (m : Int64), 1 ≤ n → n + d = 41 → fMo_resolve_296 (some o) f (nI F) m (nI n) σ = fMo_resolve_296 (some o) f (nI F) (hwc E f n (N + 1 - n) m) (nI 41) σ := by
  intro d
  induction d with
  | zero =>
    intro n m h1 hn
    have : n = 41 := by omega
    subst this
    have e0 : N + 1 - 41 = 0 := by omega
    rw [e0]
    rfl
  | succ d ih =>
    intro n m h1 hn
    rw [eMo_resolve_296, if_neg (i41 (show n < 41 by omega))]
    simp only [Mo_has (show n < 64 by omega), Option.bind_some, eMo_resolve_342, nI1]
    cases hx : hb f n
    · have hst : hwc E f n (N + 1 - n) m = hwc E f (n + 1) (N + 1 - (n + 1)) m := by
        by_cases c : n ≤ N
        · have e : N + 1 - n = (N + 1 - (n + 1)) + 1 := by omega
          rw [e]
          show hwc E f (n + 1) (N + 1 - (n + 1)) (if hb f n = true then _ else m) = _
          rw [hx, if_neg (by decide)]
        · have e : N + 1 - n = 0 := by omega
          have e2 : N + 1 - (n + 1) = 0 := by omega
          rw [e, e2]
          rfl
      rw [hst, if_neg (show ¬ (false = true) by decide), if_pos rfl]
      exact ih (n + 1) m (by omega) (by omega)
    · obtain ⟨e1, e2, e3⟩ := hf n hx
      have e : N + 1 - n = (N + 1 - (n + 1)) + 1 := by omega
      have hst : hwc E f n (N + 1 - n) m = hwc E f (n + 1) (N + 1 - (n + 1)) (if hvy E n = 0 then m else m ||| (bitN n ||| (eC E n &&& f))) := by
        rw [e]
        show hwc E f (n + 1) (N + 1 - (n + 1)) (if hb f n = true then _ else m) = _
        rw [if_pos hx]
      rw [hst, if_pos rfl, if_neg (show ¬ ((1 : Int32) = 0) by decide)]
      simp only [h.rc, Mo_heavy hN e1 e2 h hE e3, Option.bind_some, h.f10, h.g9 (show n < 41 by omega), (hE n e1 e2).2.2.2.2.2.2.2]
      by_cases c : hvy E n = 0
      · rw [if_pos c, if_pos c]
        exact ih (n + 1) m (by omega) (by omega)
      · rw [if_neg c, if_neg c, ← or_as]
        exact ih (n + 1) _ (by omega) (by omega)
end MRU
section MRV
variable {o N : Nat} {w : Int32 × Int32 × Int32} {L : Nat → Nat → Int64} {E : Ed} {S : Int64}
theorem Mo_agree_2 (hN : N ≤ 40) {F : Nat} (hF : F ≤ N) : ∀ (d i : Nat) (σ : Hp) (I : Nat → Nat → Int32), i + d = 9 → MoR σ o w I L → Mo11 I L E N → (∀ j, j < i → I 12 j = nI (if I 15 j = 0 then 0 else eF E F j)) → ∃ σ1 f, fMo_agree_2 (some o) (nI F) (nI i) σ = some (none, σ1) ∧ MoR σ1 o w (va_up I 12 f) L ∧ (∀ j, j < 9 → f j = nI (if I 15 j = 0 then 0 else eF E F j)) ∧ FrM o σ σ1 := by
  intro d
  induction d with
  | zero =>
    intro i σ I hi h h11 h0
    have : i = 9 := by omega
    subst this
    refine ⟨σ, I 12, ?_, by rw [up_id rfl]; exact h, h0, FrM.rf o σ⟩
    rw [eMo_agree_2, if_pos (show (9 : Int32) ≤ nI 9 by decide)]
  | succ d ih =>
    intro i σ I hi h h11 h0
    have hi9 : i < 9 := by omega
    obtain ⟨gF, rF'⟩ := h11.1 F hF
    obtain ⟨σ1, w1, v1, f1⟩ := h.wI 12 (by decide) (by decide) (fun J => rfl) (show i < mlen 12 from hi9) (nI (if I 15 i = 0 then 0 else eF E F i))
    obtain ⟨σ2, f, w2, v2, e2, f2⟩ := ih (i + 1) σ1 _ (by omega) v1 (h11.of (va_up_ne _ _ (by decide))) (fun j hj => by
      rw [va_up_self, va_up_ne _ _ (show 15 ≠ 12 by decide)]
      by_cases c : j = i
      · rw [c, va_up_self]
      · rw [va_up_ne _ _ c]
        exact h0 j (by omega))
    rw [up_up] at v2
    refine ⟨σ2, f, ?_, v2, fun j hj => by rw [e2 j hj, va_up_ne _ _ (show 15 ≠ 12 by decide)], f1.tr f2⟩
    rw [eMo_agree_2, if_neg (i9 hi9)]
    simp only [h.f13, h.f16, h.f12, h.g15 hi9, nI9, h.g11 (show 9 * F + i < 369 by omega), rF' i hi9, Option.bind_some, eMo_agree_37, nI1]
    by_cases c : I 15 i = 0
    · rw [if_pos c] at w1
      rw [if_pos c, show (0 : Int32) = nI 0 from rfl, w1]
      exact w2
    · rw [if_neg c] at w1
      rw [if_neg c, w1]
      exact w2
theorem Mo_rs_380 (hN : N ≤ 40) {F : Nat} (hF : F ≤ N) {r : Nat → Nat} : ∀ (d i : Nat) (σ : Hp) (I : Nat → Nat → Int32), i + d = 9 → MoR σ o w I L → Mo11 I L E N → (∀ j, j < i → I 12 j = nI (if I 15 j = 0 then r j else eF E F j)) → (∀ j, i ≤ j → j < 9 → I 12 j = nI (r j)) → ∃ σ1 f, fMo_resolve_380 (some o) (nI F) (nI i) σ = some (none, σ1) ∧ MoR σ1 o w (va_up I 12 f) L ∧ (∀ j, j < 9 → f j = nI (if I 15 j = 0 then r j else eF E F j)) ∧ FrM o σ σ1 := by
  intro d
  induction d with
  | zero =>
    intro i σ I hi h h11 h0 hr
    have : i = 9 := by omega
    subst this
    refine ⟨σ, I 12, ?_, by rw [up_id rfl]; exact h, h0, FrM.rf o σ⟩
    rw [eMo_resolve_380, if_pos (show (9 : Int32) ≤ nI 9 by decide)]
  | succ d ih =>
    intro i σ I hi h h11 h0 hr
    have hi9 : i < 9 := by omega
    obtain ⟨gF, rF'⟩ := h11.1 F hF
    obtain ⟨σ1, w1, v1, f1⟩ := h.wI 12 (by decide) (by decide) (fun J => rfl) (show i < mlen 12 from hi9) (nI (if I 15 i = 0 then r i else eF E F i))
    obtain ⟨σ2, f, w2, v2, e2, f2⟩ := ih (i + 1) σ1 _ (by omega) v1 (h11.of (va_up_ne _ _ (by decide))) (fun j hj => by
      rw [va_up_self, va_up_ne _ _ (show 15 ≠ 12 by decide)]
      by_cases c : j = i
      · rw [c, va_up_self]
      · rw [va_up_ne _ _ c]
        exact h0 j (by omega)) (fun j j1 j2 => by
      rw [va_up_self, va_up_ne _ _ (by omega)]
      exact hr j (by omega) j2)
    rw [up_up] at v2
    refine ⟨σ2, f, ?_, v2, fun j hj => by rw [e2 j hj, va_up_ne _ _ (show 15 ≠ 12 by decide)], f1.tr f2⟩
    rw [eMo_resolve_380, if_neg (i9 hi9)]
    simp only [h.f13, h.f16, h.f12, h.g15 hi9, h.g12 hi9, hr i (Nat.le_refl _) hi9, nI9, h.g11 (show 9 * F + i < 369 by omega), rF' i hi9, Option.bind_some, eMo_resolve_426, nI1]
    by_cases c : I 15 i = 0
    · rw [if_pos c] at w1
      rw [if_pos c, w1]
      exact w2
    · rw [if_neg c] at w1
      rw [if_neg c, w1]
      exact w2
/-- what the resolution needs of the events -/
def Rok (E : Ed) (N : Nat) : Prop := N ≤ 40 ∧ Lss E N ∧ Aok E N ∧ eS E 1 = 0
theorem Mo_resolve {σ : Hp} {I : Nat → Nat → Int32} {ml pl : Nat → Int32} (hR : Rok E N) (hS : ∀ n, hb S n = true → 1 ≤ n ∧ n ≤ N) (hf : Sok E N (fcM E N S)) (hw : Sok E N (hwM E N S)) (h0 : gF0 E N S 0 = 0 ∨ gF0 E N S 0 = 1) (h : MoR σ o w I L) (hE : MoE I L E N) (h11 : Mo11 I L E N) (hml : ∀ j, j < 41 → ml j = mln E 41 0 (hlM E N S 1) (fun _ => -1) j) (hP : PlOk E N ml pl) : ∃ σ1 I1, cV rF nMo_resolve [sA (some o), sJ S] σ = some σ1 ∧ MoR σ1 o w I1 L ∧ (∀ k, k ≠ 12 → k ≠ 13 → k ≠ 14 → k ≠ 15 → k ≠ 16 → I1 k = I k) ∧ (∀ j, j < 9 → I1 12 j = nI (RsM E N S pl j)) ∧ FrM o σ σ1 := by
  obtain ⟨hN, hL, hA, hs1⟩ := hR
  have hF : fsd S 40 0 ≤ N := by
    rcases fsd_sp S 40 0 with ⟨q, _⟩ | ⟨_, _, q, _⟩
    · omega
    · exact (hS _ q).2
  have en : N + 1 - 1 = N := by omega
  obtain ⟨σ1, f1, w1, v1, r1, fr1⟩ := Mo_rs_49 (o := o) (w := w) (L := L) (S := S) 0 (-1) (nI (fsd S 40 0)) 9 0 σ I rfl h (fun j hj => by omega)
  obtain ⟨σ2, f2, w2, v2, r2, z2, fr2⟩ := Mo_rs_73 (o := o) (w := w) (L := L) (S := S) (E := E) hN hS hF 40 1 0 (-1) σ1 _ (Nat.le_refl _) (by omega) v1 (hE.up (by decide)) (h11.of (va_up_ne _ _ (by decide))) (fun j hj => by
    rw [va_up_self]
    exact Or.inr (r1 j hj))
  rw [en] at w2 r2
  rw [up_up] at v2
  rw [va_up_self] at r2
  have r2' : ∀ j, j < 9 → f2 j = agF E N S j := fun j hj => (r2 j hj).trans (agm_c _ _ _ _ r1 j hj)
  have hE2 : MoE (va_up I 15 f2) L E N := hE.up (by decide)
  have h112 : Mo11 (va_up I 15 f2) L E N := h11.of (va_up_ne _ _ (by decide))
  have w3 := Mo_rs_213 (o := o) (w := w) (F := fsd S 40 0) hN hS v2 h112 40 1 ((sev E S 1 N (0, -1)).1 &&& ((sev E S 1 N (0, -1)).2 ^^^ (-1))) (Nat.le_refl _) (by omega)
  rw [en, va_up_self, dsm_c r2'] at w3
  have w4 := Mo_rs_296 (o := o) (w := w) (F := fsd S 40 0) hN (f := fcM E N S) (fun n hn => ⟨(hf n hn).1, (hf n hn).2.1, by have := (hf n hn).2.2.2.2.2.2.1; omega⟩) v2 hE2 40 1 0 (Nat.le_refl _) (by omega)
  rw [en] at w4
  obtain ⟨σ5, f5, w5, v5, r5, fr5⟩ := Mo_agree_2 (o := o) (w := w) (L := L) (E := E) hN hF 9 0 σ2 _ rfl v2 h112 (fun j hj => by omega)
  rw [va_up_self] at r5
  have r5' : ∀ j, j < 9 → (va_up (va_up I 15 f2) 12 f5) 12 j = nI (gF0 E N S j) := fun j hj => by
    rw [va_up_self, r5 j hj, r2' j hj]
    rfl
  have gl0 : gle (gF0 E N S) N := fun j hj => by
    unfold gF0
    split
    · exact Nat.zero_le _
    · exact (h11.1 _ hF).1 j hj
  obtain ⟨σ6, I6, w6, v6, k6, r6, g6, z6, fr6⟩ := Mo_tryHeavy hN hL hs1 hw v5 (hE2.up (by decide)) gl0 h0 r5'
  have hE6 : MoE I6 L E N := (hE2.up (k := 12) (by decide)).of (fun k hk => k6 k (by omega) (by omega) (by omega))
  obtain ⟨σ7, f7, m0, w7, v7, r7, fr7⟩ := Mo_mainline hN hA (g6 1 (by decide)) v6 hE6 (r6 1 (by decide))
  have hM : Pl16 (va_up (va_up I6 16 (mln E 41 0 (hl2 E N 41 (hwM E N S) (gF0 E N S) 1) m0)) 14 f7) N ml := by
    intro j j1 j2
    have e1 := mln_c (E := E) 41 0 (hlM E N S 1) m0 (fun _ => -1) r7 j (by omega)
    rw [va_up_ne _ _ (show 16 ≠ 14 by decide), va_up_self, hml j (by omega)]
    exact ⟨e1, mln_v 41 0 _ _ (by omega) (fun _ _ => Or.inl rfl) j (by omega)⟩
  have hO : Sok E N (fcM E N S &&& (hwM E N S ^^^ (-1))) := fun n hn => by
    rw [hb_and, Bool.and_eq_true] at hn
    exact hf n hn.1
  have hE7 : MoE (va_up (va_up I6 16 (mln E 41 0 (hl2 E N 41 (hwM E N S) (gF0 E N S) 1) m0)) 14 f7) L E N := (hE6.up (by decide)).up (by decide)
  obtain ⟨σ8, I8, w8, v8, k8, r8, g8, z8, fr8⟩ := Mo_tryOthers hN hA hP hs1 hO v7 hE7 hM g6 (by rw [z6]; exact h0) (fun j hj => by
    rw [va_up_ne _ _ (show 12 ≠ 14 by decide), va_up_ne _ _ (show 12 ≠ 16 by decide)]
    exact r6 j hj)
  have k15 : I8 15 = f2 := by
    rw [k8 15 (by decide) (by decide) (by decide), va_up_ne _ _ (show 15 ≠ 14 by decide), va_up_ne _ _ (show 15 ≠ 16 by decide), k6 15 (by decide) (by decide) (by decide), va_up_ne _ _ (show 15 ≠ 12 by decide), va_up_self]
  have kk : ∀ k, k ≠ 12 → k ≠ 13 → k ≠ 14 → k ≠ 15 → k ≠ 16 → I8 k = I k := fun k a1 a2 a3 a4 a5 => by
    rw [k8 k a1 a2 a3, va_up_ne _ _ a3, va_up_ne _ _ a5, k6 k a1 a2 a3, va_up_ne _ _ a1, va_up_ne _ _ a4]
  obtain ⟨σ9, f9, w9, v9, r9, fr9⟩ := Mo_rs_380 (o := o) (w := w) (L := L) (E := E) (r := ol2 E N pl 41 (fcM E N S &&& (hwM E N S ^^^ (-1))) (hl2 E N 41 (hwM E N S) (gF0 E N S))) hN hF 9 0 σ8 I8 rfl v8 (h11.of (kk 11 (by decide) (by decide) (by decide) (by decide) (by decide))) (fun j hj => by omega) (fun j _ hj => r8 j hj)
  refine ⟨σ9, _, cV_of ((eMo_resolve _ _ σ).trans ?_), v9, fun k a1 a2 a3 a4 a5 => ?_, fun j hj => ?_, ((((((fr1.tr fr2).tr fr5).tr fr6).tr fr7).tr fr8).tr fr9)⟩
  · refine Eq.trans (show fMo_resolve_17 (some o) S 0 (-1) (0 : Int32) (40 : Int32) σ = _ from Mo_rs_17 (o := o) (S := S) 0 (-1) 40 0 σ (Nat.le_refl _)) ?_
    refine Eq.trans (show _ = _ from w1) ?_
    refine Eq.trans (show _ = _ from w2) ?_
    refine Eq.trans (show _ = _ from w3) ?_
    refine Eq.trans (show _ = _ from w4) ?_
    rw [eMo_resolve_296, if_pos (show (41 : Int32) ≤ nI 41 by decide)]
    have w5' : cV rF nMo_agree [sA (some o), sI (nI (fsd S 40 0))] σ2 = some σ5 := cV_of ((eMo_agree _ _ σ2).trans w5)
    have w6' : cV rF nMo_tryHeavy [sA (some o), sJ (hwc E (fcM E N S) 1 N 0)] σ5 = some σ6 := w6
    have w8' : cV rF nMo_tryOthers [sA (some o), sJ (fcM E N S &&& (hwc E (fcM E N S) 1 N 0 ^^^ (-1)))] σ7 = some σ8 := w8
    simp only [v2.rc, w5', v5.rc, w6', v6.rc, w7, v7.rc, w8', Option.bind_some]
    exact w9
  · rw [va_up_ne _ _ a1]
    exact kk k a1 a2 a3 a4 a5
  · rw [va_up_self, r9 j hj, k15, r2' j hj]
    rfl
end MRV
