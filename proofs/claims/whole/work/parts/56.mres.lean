/-! The reference's resolve, its loops one by one. -/
theorem nI_mul (a b : Nat) : nI a * nI b = nI (a * b) := (Int32.ofNat_mul a b).symm
theorem nI9 (e k : Nat) : (9 : Int32) * nI e + nI k = nI (9 * e + k) := by
  rw [show (9 : Int32) * nI e = nI (9 * e) from nI_mul 9 e, nI_add]
theorem nIm1 (e : Nat) : nI (e + 1) + (-1 : Int32) = nI e := by
  rw [← nI1, Int32.add_assoc, show (1 : Int32) + (-1) = 0 by decide, Int32.add_zero]
def fsd (S : Int64) : Nat → Nat → Nat
  | 0, f => f
  | e + 1, f => fsd S e (if hb S (e + 1) = true then e + 1 else f)
theorem fsd_sp (S : Int64) : ∀ (e f : Nat), (fsd S e f = f ∧ ∀ i, 1 ≤ i → i ≤ e → hb S i = false) ∨ (1 ≤ fsd S e f ∧ fsd S e f ≤ e ∧ hb S (fsd S e f) = true ∧ ∀ i, 1 ≤ i → i < fsd S e f → hb S i = false) := by
  intro e
  induction e with
  | zero => intro f; exact Or.inl ⟨rfl, fun i h1 h2 => by omega⟩
  | succ e ih =>
    intro f
    show (fsd S e (if hb S (e + 1) = true then e + 1 else f) = f ∧ _) ∨ (1 ≤ fsd S e (if hb S (e + 1) = true then e + 1 else f) ∧ fsd S e (if hb S (e + 1) = true then e + 1 else f) ≤ e + 1 ∧ hb S (fsd S e (if hb S (e + 1) = true then e + 1 else f)) = true ∧ ∀ i, 1 ≤ i → i < fsd S e (if hb S (e + 1) = true then e + 1 else f) → hb S i = false)
    rcases ih (if hb S (e + 1) = true then e + 1 else f) with ⟨q1, q2⟩ | ⟨q1, q2, q3, q4⟩
    · rw [q1]
      cases hx : hb S (e + 1)
      · rw [if_neg (by decide)]
        refine Or.inl ⟨rfl, fun i h1 h2 => ?_⟩
        by_cases c : i = e + 1
        · rw [c]; exact hx
        · exact q2 i h1 (by omega)
      · rw [if_pos rfl]
        exact Or.inr ⟨by omega, by omega, hx, fun i h1 h2 => q2 i h1 (by omega)⟩
    · exact Or.inr ⟨q1, by omega, q3, q4⟩
/-- the reference's row of states behind the events; event 0 stands for none -/
def Mo11 (I : Nat → Nat → Int32) (L : Nat → Nat → Int64) (E : Ed) (N : Nat) : Prop := (∀ n, n ≤ N → gle (eF E n) N ∧ ∀ k, k < 9 → I 11 (9 * n + k) = nI (eF E n k)) ∧ L 9 0 = 0
theorem Mo11.of {I I1 : Nat → Nat → Int32} {L : Nat → Nat → Int64} {E : Ed} {N : Nat} (h : Mo11 I L E N) (e : I1 11 = I 11) : Mo11 I1 L E N := ⟨fun n hn => ⟨(h.1 n hn).1, fun k hk => by rw [e]; exact (h.1 n hn).2 k hk⟩, h.2⟩
def agn (E : Ed) (F n : Nat) (a : Nat → Int32) : Nat → Int32 := fun k => if a k = 0 then 0 else if eF E n k = eF E F k then 1 else 0
def agm (E : Ed) (S : Int64) (F : Nat) : Nat → Nat → (Nat → Int32) → (Nat → Int32)
  | _, 0, a => a
  | n, d + 1, a => agm E S F (n + 1) d (if hb S n = true then agn E F n a else a)
def sev (E : Ed) (S : Int64) : Nat → Nat → Int64 × Int64 → Int64 × Int64
  | _, 0, q => q
  | n, d + 1, q => sev E S (n + 1) d (if hb S n = true then (q.1 ||| whl E (eF E n) 0 9 0, q.2 &&& whl E (eF E n) 0 9 0) else q)
def dsm (E : Ed) (S : Int64) (a : Nat → Int32) : Nat → Nat → Int64 → Int64
  | _, 0, m => m
  | n, d + 1, m => dsm E S a (n + 1) d (if hb S n = true then dsp a (eF E n) 0 9 m else m)
section MRS
variable {o N : Nat} {w : Int32 × Int32 × Int32} {L : Nat → Nat → Int64} {E : Ed} {S : Int64}
theorem Mo_rs_17 (a b : Int64) : ∀ (e f : Nat) (σ : Hp), e ≤ 40 → fMo_resolve_17 (some o) S a b (nI f) (nI e) σ = fMo_resolve_49 (some o) S a b (nI (fsd S e f)) (0 : Int32) σ := by
  intro e
  induction e with
  | zero =>
    intro f σ _
    rw [eMo_resolve_17, if_pos (show nI 0 ≤ 0 by decide)]
    rfl
  | succ e ih =>
    intro f σ he
    have n0 : ¬ nI (e + 1) ≤ 0 := fun q => by
      have := (nIle0 (n := e + 1) (by omega)).mp q
      omega
    rw [eMo_resolve_17, if_neg n0]
    simp only [Mo_has (show e + 1 < 64 by omega), Option.bind_some, eMo_resolve_38, nIm1]
    show _ = fMo_resolve_49 (some o) S a b (nI (fsd S e (if hb S (e + 1) = true then e + 1 else f))) (0 : Int32) σ
    cases hx : hb S (e + 1)
    · rw [if_neg (show ¬ (false = true) by decide), if_pos rfl, if_neg (show ¬ (false = true) by decide)]
      exact ih f σ (by omega)
    · rw [if_pos rfl, if_neg (show ¬ ((1 : Int32) = 0) by decide), if_pos rfl]
      exact ih (e + 1) σ (by omega)
theorem Mo_rs_49 (a b : Int64) (x : Int32) : ∀ (d i : Nat) (σ : Hp) (I : Nat → Nat → Int32), i + d = 9 → MoR σ o w I L → (∀ j, j < i → I 15 j = 1) → ∃ σ1 f, fMo_resolve_49 (some o) S a b x (nI i) σ = fMo_resolve_73 (some o) S a b x (1 : Int32) σ1 ∧ MoR σ1 o w (va_up I 15 f) L ∧ (∀ j, j < 9 → f j = 1) ∧ FrM o σ σ1 := by
  intro d
  induction d with
  | zero =>
    intro i σ I hi h h0
    have : i = 9 := by omega
    subst this
    refine ⟨σ, I 15, ?_, by rw [up_id rfl]; exact h, h0, FrM.rf o σ⟩
    rw [eMo_resolve_49, if_pos (show (9 : Int32) ≤ nI 9 by decide)]
  | succ d ih =>
    intro i σ I hi h h0
    have hi9 : i < 9 := by omega
    obtain ⟨σ1, w1, v1, f1⟩ := h.wZ 15 (by decide) (by decide) (fun J => rfl) (show i < mlen 15 from hi9) (x := 1) (Or.inr rfl)
    obtain ⟨σ2, f, w2, v2, e2, f2⟩ := ih (i + 1) σ1 _ (by omega) v1 (fun j hj => by
      rw [va_up_self]
      by_cases c : j = i
      · rw [c, va_up_self]
      · rw [va_up_ne _ _ c]
        exact h0 j (by omega))
    refine ⟨σ2, f, ?_, by rw [up_up] at v2; exact v2, e2, f1.tr f2⟩
    rw [eMo_resolve_49, if_neg (i9 hi9)]
    simp only [h.f16, w1, Option.bind_some, nI1, w2]
theorem Mo_rs_95 (hN : N ≤ 40) (a b : Int64) {n F : Nat} (hn1 : 1 ≤ n) (hn : n ≤ N) (hF : F ≤ N) : ∀ (d i : Nat) (m : Int64) (σ : Hp) (I : Nat → Nat → Int32), i + d = 9 → MoR σ o w I L → MoE I L E N → Mo11 I L E N → (∀ j, j < 9 → I 15 j = 0 ∨ I 15 j = 1) → ∃ σ1 f, fMo_resolve_95 (some o) S a b (nI F) (nI n) m (nI i) σ = fMo_resolve_194 (some o) S (a ||| whl E (eF E n) i d m) (b &&& whl E (eF E n) i d m) (nI F) (nI n) σ1 ∧ MoR σ1 o w (va_up I 15 f) L ∧ (∀ j, j < 9 → f j = if i ≤ j then agn E F n (I 15) j else I 15 j) ∧ FrM o σ σ1 := by
  intro d
  induction d with
  | zero =>
    intro i m σ I hi h hE h11 h15
    have : i = 9 := by omega
    subst this
    refine ⟨σ, I 15, ?_, by rw [up_id rfl]; exact h, fun j hj => ?_, FrM.rf o σ⟩
    · rw [eMo_resolve_95, if_pos (show (9 : Int32) ≤ nI 9 by decide)]
      rfl
    · rw [if_neg (by omega)]
  | succ d ih =>
    intro i m σ I hi h hE h11 h15
    have hi9 : i < 9 := by omega
    obtain ⟨gn, rn⟩ := h11.1 n hn
    obtain ⟨gF, rF'⟩ := h11.1 F hF
    have l1 := gn i hi9
    have l2 := gF i hi9
    have hag : agn E F n (I 15) i = 0 ∨ agn E F n (I 15) i = 1 := by
      unfold agn
      repeat' split
      · exact Or.inl rfl
      · exact Or.inr rfl
      · exact Or.inl rfl
    obtain ⟨σ1, w1, v1, f1⟩ := h.wZ 15 (by decide) (by decide) (fun J => rfl) (show i < mlen 15 from hi9) (x := agn E F n (I 15) i) hag
    have hE1 : MoE (va_up I 15 (va_up (I 15) i (agn E F n (I 15) i))) L E N := hE.up (by decide)
    have h111 : Mo11 (va_up I 15 (va_up (I 15) i (agn E F n (I 15) i))) L E N := h11.of (va_up_ne _ _ (by decide))
    have s152 : fMo_resolve_152 (some o) S a b (nI F) (nI n) m (nI i) (some (o + 15)) (nI i) (agn E F n (I 15) i) σ = fMo_resolve_95 (some o) S a b (nI F) (nI n) (if eF E n i = 0 then m else m ||| eC E (eF E n i)) (nI (i + 1)) σ1 := by
      rw [eMo_resolve_152]
      have r1 : alI σ1 (some (o + 11)) (nI (9 * n + i)) = some (nI (eF E n i)) := by
        rw [v1.g11 (by omega), va_up_ne _ _ (show 11 ≠ 15 by decide), rn i hi9]
      simp only [w1, v1.f10, v1.f12, nI9, r1, v1.g9 (show eF E n i < 41 by omega), Option.bind_some, nI1]
      by_cases c : eF E n i = 0
      · rw [if_pos c, c, h11.2, Int64.or_zero]
      · rw [if_neg c, (hE _ (by omega) l1).2.2.2.2.2.2.2]
    have s95 : fMo_resolve_95 (some o) S a b (nI F) (nI n) m (nI i) σ = fMo_resolve_152 (some o) S a b (nI F) (nI n) m (nI i) (some (o + 15)) (nI i) (agn E F n (I 15) i) σ := by
      rw [eMo_resolve_95, if_neg (i9 hi9)]
      simp only [h.f16, h.f12, h.g15 hi9, nI9, h.g11 (show 9 * n + i < 369 by omega), h.g11 (show 9 * F + i < 369 by omega), rn i hi9, rF' i hi9, Option.bind_some, eMo_resolve_151]
      unfold agn
      by_cases c : I 15 i = 0
      · rw [if_pos c, if_pos c]
      · rw [if_neg c, if_neg c]
        by_cases c2 : eF E n i = eF E F i
        · have n2 : ¬ ¬ nI (eF E n i) = nI (eF E F i) := fun q => q (by rw [c2])
          rw [if_neg n2, if_pos c2]
        · have n2 : ¬ nI (eF E n i) = nI (eF E F i) := fun q => c2 ((nI_eq (by omega) (by omega)).mp q)
          rw [if_pos n2, if_neg c2]
    obtain ⟨σ2, f, w2, v2, e2, f2⟩ := ih (i + 1) (if eF E n i = 0 then m else m ||| eC E (eF E n i)) σ1 _ (by omega) v1 hE1 h111 (fun j hj => by
      rw [va_up_self]
      by_cases c : j = i
      · rw [c, va_up_self]; exact hag
      · rw [va_up_ne _ _ c]; exact h15 j hj)
    refine ⟨σ2, f, ?_, by rw [up_up] at v2; exact v2, fun j hj => ?_, f1.tr f2⟩
    · rw [s95, s152, w2]
      rfl
    · rw [e2 j hj, va_up_self]
      by_cases c : j = i
      · rw [if_neg (by omega), if_pos (by omega), c, va_up_self]
      · by_cases c2 : i + 1 ≤ j
        · rw [if_pos c2, if_pos (by omega)]
          unfold agn
          rw [va_up_ne _ _ c]
        · rw [if_neg c2, if_neg (by omega), va_up_ne _ _ c]
theorem agm_c {F : Nat} : ∀ (d n : Nat) (a a' : Nat → Int32), (∀ j, j < 9 → a j = a' j) → ∀ j, j < 9 → agm E S F n d a j = agm E S F n d a' j := by
  intro d
  induction d with
  | zero => intro n a a' h j hj; exact h j hj
  | succ d ih =>
    intro n a a' h j hj
    refine ih (n + 1) _ _ (fun q hq => ?_) j hj
    cases hb S n
    · rw [if_neg (by decide), if_neg (by decide)]
      exact h q hq
    · rw [if_pos rfl, if_pos rfl]
      unfold agn
      rw [h q hq]
theorem Mo_rs_73 (hN : N ≤ 40) (hS : ∀ n, hb S n = true → 1 ≤ n ∧ n ≤ N) {F : Nat} (hF : F ≤ N) : ∀ (d n : Nat) (a b : Int64) (σ : Hp) (I : Nat → Nat → Int32), 1 ≤ n → n + d = 41 → MoR σ o w I L → MoE I L E N → Mo11 I L E N → (∀ j, j < 9 → I 15 j = 0 ∨ I 15 j = 1) → ∃ σ1 f, fMo_resolve_73 (some o) S a b (nI F) (nI n) σ = fMo_resolve_213 (some o) S ((sev E S n (N + 1 - n) (a, b)).1 &&& ((sev E S n (N + 1 - n) (a, b)).2 ^^^ (-1))) (nI F) (1 : Int32) σ1 ∧ MoR σ1 o w (va_up I 15 f) L ∧ (∀ j, j < 9 → f j = agm E S F n (N + 1 - n) (I 15) j) ∧ (∀ j, j < 9 → f j = 0 ∨ f j = 1) ∧ FrM o σ σ1 := by
  intro d
  induction d with
  | zero =>
    intro n a b σ I h1 hn h hE h11 h15
    have : n = 41 := by omega
    subst this
    have e0 : N + 1 - 41 = 0 := by omega
    rw [e0]
    refine ⟨σ, I 15, ?_, by rw [up_id rfl]; exact h, fun j hj => rfl, h15, FrM.rf o σ⟩
    rw [eMo_resolve_73, if_pos (show (41 : Int32) ≤ nI 41 by decide)]
    rfl
  | succ d ih =>
    intro n a b σ I h1 hn h hE h11 h15
    rw [eMo_resolve_73, if_neg (i41 (show n < 41 by omega))]
    simp only [Mo_has (show n < 64 by omega), Option.bind_some]
    cases hx : hb S n
    · rw [if_neg (show ¬ (false = true) by decide), if_pos rfl, eMo_resolve_194, nI1]
      have hst : sev E S n (N + 1 - n) (a, b) = sev E S (n + 1) (N + 1 - (n + 1)) (a, b) ∧ agm E S F n (N + 1 - n) (I 15) = agm E S F (n + 1) (N + 1 - (n + 1)) (I 15) := by
        by_cases c : n ≤ N
        · have e : N + 1 - n = (N + 1 - (n + 1)) + 1 := by omega
          rw [e]
          refine ⟨?_, ?_⟩
          · show sev E S (n + 1) (N + 1 - (n + 1)) (if hb S n = true then _ else (a, b)) = _
            rw [hx, if_neg (by decide)]
          · show agm E S F (n + 1) (N + 1 - (n + 1)) (if hb S n = true then _ else I 15) = _
            rw [hx, if_neg (by decide)]
        · have e : N + 1 - n = 0 := by omega
          have e2 : N + 1 - (n + 1) = 0 := by omega
          rw [e, e2]
          exact ⟨rfl, rfl⟩
      rw [hst.1, hst.2]
      exact ih (n + 1) a b σ I (by omega) (by omega) h hE h11 h15
    · obtain ⟨e1, e2⟩ := hS n hx
      have e : N + 1 - n = (N + 1 - (n + 1)) + 1 := by omega
      have hs1 : sev E S n (N + 1 - n) (a, b) = sev E S (n + 1) (N + 1 - (n + 1)) (a ||| whl E (eF E n) 0 9 0, b &&& whl E (eF E n) 0 9 0) := by
        rw [e]
        show sev E S (n + 1) (N + 1 - (n + 1)) (if hb S n = true then _ else (a, b)) = _
        rw [if_pos hx]
      have hs2 : agm E S F n (N + 1 - n) (I 15) = agm E S F (n + 1) (N + 1 - (n + 1)) (agn E F n (I 15)) := by
        rw [e]
        show agm E S F (n + 1) (N + 1 - (n + 1)) (if hb S n = true then _ else I 15) = _
        rw [if_pos hx]
      rw [if_pos rfl, if_neg (show ¬ ((1 : Int32) = 0) by decide), hs1, hs2]
      obtain ⟨σ1, f, w1, v1, r1, f1⟩ := Mo_rs_95 (o := o) (w := w) (L := L) (S := S) hN a b e1 e2 hF 9 0 0 σ I rfl h hE h11 h15
      have r1' : ∀ j, j < 9 → f j = agn E F n (I 15) j := fun j hj => by rw [r1 j hj, if_pos (Nat.zero_le _)]
      obtain ⟨σ2, f2, w2, v2, r2, z2, fr2⟩ := ih (n + 1) (a ||| whl E (eF E n) 0 9 0) (b &&& whl E (eF E n) 0 9 0) σ1 _ (by omega) (by omega) v1 (hE.up (by decide)) (h11.of (va_up_ne _ _ (by decide))) (fun j hj => by
        rw [va_up_self, r1' j hj]
        unfold agn
        repeat' split
        · exact Or.inl rfl
        · exact Or.inr rfl
        · exact Or.inl rfl)
      rw [up_up] at v2
      refine ⟨σ2, f2, ?_, v2, fun j hj => ?_, z2, f1.tr fr2⟩
      · refine Eq.trans (show fMo_resolve_95 (some o) S a b (nI F) (nI n) 0 (0 : Int32) σ = _ from w1) ?_
        rw [eMo_resolve_194, nI1, w2]
      · rw [r2 j hj, va_up_self]
        exact agm_c _ _ _ _ r1' j hj
end MRS
