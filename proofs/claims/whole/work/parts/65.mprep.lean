/-! The reference's prepare. -/
theorem upN {α : Type} {I : Nat → Nat → α} {k e k' n : Nat} {x : α} (h : n ≠ e) : va_up I k (va_up (I k) e x) k' n = I k' n := by
  by_cases c : k' = k
  · subst c
    rw [va_up_self, va_up_ne _ _ h]
  · rw [va_up_ne _ _ c]
theorem MoE.pt {I I1 : Nat → Nat → Int32} {L L1 : Nat → Nat → Int64} {E : Ed} {N : Nat} (h : MoE I L E N) (hI : ∀ k n, n ≤ N → I1 k n = I k n) (hL : ∀ k n, n ≤ N → L1 k n = L k n) : MoE I1 L1 E N := by
  intro n h1 h2
  have := h n h1 h2
  rw [hI 2 n h2, hI 3 n h2, hI 4 n h2, hI 5 n h2, hI 6 n h2, hL 7 n h2, hL 8 n h2, hL 9 n h2]
  exact this
/-- the keys that an event's auths are named by -/
def nmd (u k t n : Nat) : Bool := decide (n < 2) || (decide (n = 3 + u) || ((decide (k ≤ 4) && decide (n = 3 + t)) || (decide (n = 2) && (decide (k = 1) || decide (k = 2)))))
def aut (g : Nat → Nat) (p : Nat → Bool) : Nat → Nat → Int64 → Int64
  | _, 0, m => m
  | i, d + 1, m => aut g p (i + 1) d (if p i = true then (if g i = 0 then m else m ||| bitN (g i)) else m)
def chn (E : Ed) (A : Int64) : Nat → Nat → Int64 → Int64
  | _, 0, m => m
  | n, d + 1, m => chn E A (n + 1) d (if hb A n = true then m ||| eC E n else m)
section MPR
variable {o N : Nat} {w : Int32 × Int32 × Int32} {E : Ed} {g : Nat → Nat}
theorem Mo_pr_60 {L : Nat → Nat → Int64} (hN : N < 40) (h0 : g 0 = 1) (hs1 : eS E 1 = 0) (hg : gle g N) {t : Nat} (v u : Int32) (z : Int64) : ∀ (d i : Nat) (σ : Hp) (I : Nat → Nat → Int32), i + d = 6 → MoR σ o w I L → MoE I L E N → (∀ j, j < 9 → I 12 j = nI (g j)) → ∃ σ1, fMo_prepare_60 (some o) u (5 : Int32) (nI t) v z (nI (N + 1)) (nI i) σ = fMo_prepare_114 (some o) u (5 : Int32) (nI t) z (nI (N + 1)) σ1 ∧ MoR σ1 o w (va_up I 5 (va_up (I 5) (N + 1) (lvw E g t v i d (I 5 (N + 1))))) L ∧ FrM o σ σ1 := by
  intro d
  induction d with
  | zero =>
    intro i σ I hi h hE h12
    have : i = 6 := by omega
    subst this
    refine ⟨σ, ?_, ?_, FrM.rf o σ⟩
    · rw [eMo_prepare_60, if_pos (show (6 : Int32) ≤ nI 6 by decide)]
    · show MoR σ o w (va_up I 5 (va_up (I 5) (N + 1) (I 5 (N + 1)))) L
      rw [up_id (f := I 5) rfl, up_id rfl]
      exact h
  | succ d ih =>
    intro i σ I hi h hE h12
    have hi6 : i < 6 := by omega
    obtain ⟨σ1, w1, v1, f1⟩ := h.wI 5 (by decide) (by decide) (fun J => rfl) (show N + 1 < mlen 5 from (by show N + 1 < 41; omega)) (I 5 (N + 1) + ((if ¬ nI i = nI t then lv E g i else v) <<< (((2 : Int32) * nI i) &&& 31)))
    have hE1 : MoE (va_up I 5 (va_up (I 5) (N + 1) (I 5 (N + 1) + ((if ¬ nI i = nI t then lv E g i else v) <<< (((2 : Int32) * nI i) &&& 31))))) L E N := hE.pt (fun k n hn => upN (by omega)) (fun _ _ _ => rfl)
    obtain ⟨σ2, w2, v2, f2⟩ := ih (i + 1) σ1 _ (by omega) v1 hE1 (fun j hj => by rw [va_up_ne _ _ (show 12 ≠ 5 by decide)]; exact h12 j hj)
    rw [va_up_self, va_up_self, up_up, up_up] at v2
    refine ⟨σ2, ?_, v2, f1.tr f2⟩
    rw [eMo_prepare_60, if_neg (i6 hi6)]
    have hY : ∀ j, j < 9 → alI σ (some (o + 12)) (nI j) = some (nI (g j)) := fun j hj => by rw [h.g12 hj, h12 j hj]
    have n5 : ¬ ¬ (5 : Int32) = 5 := fun q => q rfl
    rw [if_neg n5]
    simp only [h.f6, h.f13, h.g5 (show N + 1 < 41 by omega), Option.bind_some, h.rc, Mo_levelC h hE (show N ≤ 40 by omega) hY hg h0 hs1 hi6, eMo_prepare_101, nI1]
    by_cases c : nI i = nI t
    · have nc : ¬ ¬ nI i = nI t := fun q => q c
      rw [if_neg nc] at w1
      rw [if_neg nc, w1]
      exact w2
    · rw [if_pos c] at w1
      rw [if_pos c, w1]
      exact w2
theorem Mo_pr_154 {I : Nat → Nat → Int32} (hN : N < 40) (hg : gle g N) {u k t : Nat} (hu : u < 6) (hk1 : 1 ≤ k) (hk : k ≤ 7) (ht : t < 6) (h12 : ∀ j, j < 9 → I 12 j = nI (g j)) : ∀ (d i : Nat) (σ : Hp) (L : Nat → Nat → Int64), i + d = 9 → MoR σ o w I L → ∃ σ1, fMo_prepare_154 (some o) (nI u) (nI k) (nI t) (nI (N + 1)) (nI i) σ = fMo_prepare_154 (some o) (nI u) (nI k) (nI t) (nI (N + 1)) (nI 9) σ1 ∧ MoR σ1 o w I (va_up L 8 (va_up (L 8) (N + 1) (aut g (nmd u k t) i d (L 8 (N + 1))))) ∧ FrM o σ σ1 := by
  intro d
  induction d with
  | zero =>
    intro i σ L hi h
    have : i = 9 := by omega
    subst this
    refine ⟨σ, rfl, ?_, FrM.rf o σ⟩
    show MoR σ o w I (va_up L 8 (va_up (L 8) (N + 1) (L 8 (N + 1))))
    rw [up_id (f := L 8) rfl, up_id rfl]
    exact h
  | succ d ih =>
    intro i σ L hi h
    have hi9 : i < 9 := by omega
    have hgi := hg i hi9
    have s233 : ∀ (b : Bool), b = nmd u k t i → ∃ σ1, fMo_prepare_233 (some o) (nI u) (nI k) (nI t) (nI (N + 1)) (nI i) (if b = true then 1 else 0) σ = fMo_prepare_154 (some o) (nI u) (nI k) (nI t) (nI (N + 1)) (nI 9) σ1 ∧ MoR σ1 o w I (va_up L 8 (va_up (L 8) (N + 1) (aut g (nmd u k t) i (d + 1) (L 8 (N + 1))))) ∧ FrM o σ σ1 := by
      intro b hb
      have hu1 : aut g (nmd u k t) i (d + 1) (L 8 (N + 1)) = aut g (nmd u k t) (i + 1) d (if b = true then (if g i = 0 then L 8 (N + 1) else L 8 (N + 1) ||| bitN (g i)) else L 8 (N + 1)) := by
        rw [hb]
        rfl
      rw [hu1, eMo_prepare_233]
      cases b
      · rw [if_neg (show ¬ (false = true) by decide), if_pos rfl, if_neg (show ¬ (false = true) by decide), eMo_prepare_274, nI1]
        exact ih (i + 1) σ L (by omega) h
      · rw [if_pos rfl, if_neg (show ¬ ((1 : Int32) = 0) by decide), if_pos rfl]
        simp only [h.f13, h.f9, h.g12 hi9, h12 i hi9, h.g8 (show N + 1 < 41 by omega), Option.bind_some, eMo_prepare_274, nI1, nIle0 (show g i < 2 ^ 31 by omega)]
        by_cases c : g i = 0
        · rw [if_pos c, if_pos c]
          exact ih (i + 1) σ L (by omega) h
        · rw [if_neg c, if_neg c]
          obtain ⟨σ1, w1, v1, f1⟩ := h.wJ 8 (by decide) (by decide) (fun J => rfl) (show N + 1 < mlen 8 from (by show N + 1 < 41; omega)) (L 8 (N + 1) ||| bitN (g i))
          obtain ⟨σ2, w2, v2, f2⟩ := ih (i + 1) σ1 _ (by omega) v1
          rw [va_up_self, va_up_self, up_up, up_up] at v2
          refine ⟨σ2, ?_, v2, f1.tr f2⟩
          have w1' : asJ σ (some (o + 8)) (nI (N + 1)) (L 8 (N + 1) ||| (1 : Int64) <<< (Int32.toInt64 (nI (g i)) &&& 63)) = some σ1 := w1
          rw [w1']
          exact w2
    obtain ⟨σ1, w1, r1⟩ := s233 (nmd u k t i) rfl
    refine ⟨σ1, ?_, r1⟩
    rw [← w1, eMo_prepare_154, if_neg (i9 hi9)]
    have k4 : ((4 : Int32) < nI k) ↔ 4 < k := nI_ltI (a := 4) (b := k) (by decide) (by omega)
    have e3t : (nI i = (3 : Int32) + nI t) ↔ i = 3 + t := by
      rw [show (3 : Int32) + nI t = nI (3 + t) from nI_add 3 t]
      exact nI_eq (by omega) (by omega)
    have e3u : (nI i = (3 : Int32) + nI u) ↔ i = 3 + u := by
      rw [show (3 : Int32) + nI u = nI (3 + u) from nI_add 3 u]
      exact nI_eq (by omega) (by omega)
    have e2 : (nI i = (2 : Int32)) ↔ i = 2 := nI_eq (a := i) (b := 2) (by omega) (by decide)
    have l2 : (nI i < (2 : Int32)) ↔ i < 2 := nI_ltI (a := i) (b := 2) (by omega) (by decide)
    have kk1 : (nI k = (1 : Int32)) ↔ k = 1 := nI_eq (a := k) (b := 1) (by omega) (by decide)
    have kk2 : (nI k = (2 : Int32)) ↔ k = 2 := nI_eq (a := k) (b := 2) (by omega) (by decide)
    simp only [eMo_prepare_178, eMo_prepare_179, eMo_prepare_197, eMo_prepare_201, eMo_prepare_202, eMo_prepare_228, k4, e3t, e3u, e2, l2, kk1, kk2]
    unfold nmd
    by_cases a1 : i < 2
    · have a2 : ¬ i = 2 := by omega
      have a3 : ¬ i = 3 + t := by omega
      simp [a1, a2, a3]
    · by_cases a2 : i = 3 + u
      · have a3 : ¬ i = 2 := by omega
        by_cases a4 : i = 3 + t
        · by_cases a5 : 4 < k
          · simp [a1, a3, ← a2, a5]
          · simp [a1, a3, ← a2, a5]
        · simp [a1, a3, ← a2]
      · by_cases a3 : i = 2
        · have a4 : ¬ i = 3 + t := by omega
          by_cases a5 : k = 1
          · simp [a1, a2, a3, a5]
          · by_cases a6 : k = 2
            · simp [a1, a2, a3, a6]
            · subst a3
              have b1 : ¬ 2 = 3 + t := by omega
              have b2 : ¬ 2 = 3 + u := by omega
              simp [b1, b2, a5, a6]
        · by_cases a4 : i = 3 + t
          · by_cases a5 : 4 < k
            · have a6 : ¬ k ≤ 4 := by omega
              simp [a1, a2, a3, a5, a6]
            · have a6 : k ≤ 4 := by omega
              simp [a1, a2, a3, a4, a5, a6]
          · simp [a1, a2, a3, a4]
theorem Mo_pr_297 {I : Nat → Nat → Int32} (hN : N < 40) (A : Int64) : ∀ (d n : Nat) (σ : Hp) (L : Nat → Nat → Int64), 1 ≤ n → n + d = N + 1 → MoR σ o w I L → (∀ i, 1 ≤ i → i ≤ N → L 9 i = eC E i) → L 8 (N + 1) = A → ∃ σ1, fMo_prepare_297 (some o) (nI (N + 1)) (nI n) σ = some (none, σ1) ∧ MoR σ1 o w I (va_up L 9 (va_up (L 9) (N + 1) (chn E A n d (L 9 (N + 1))))) ∧ FrM o σ σ1 := by
  intro d
  induction d with
  | zero =>
    intro n σ L h1 hn h h9 hA
    have : n = N + 1 := by omega
    subst this
    refine ⟨σ, ?_, ?_, FrM.rf o σ⟩
    · rw [eMo_prepare_297, if_pos (show nI (N + 1) ≤ nI (N + 1) from (nI_leI (by omega) (by omega)).mpr (Nat.le_refl _))]
    · show MoR σ o w I (va_up L 9 (va_up (L 9) (N + 1) (L 9 (N + 1))))
      rw [up_id (f := L 9) rfl, up_id rfl]
      exact h
  | succ d ih =>
    intro n σ L h1 hn h h9 hA
    have n1 : ¬ nI (N + 1) ≤ nI n := fun z => by
      have := (nI_leI (a := N + 1) (b := n) (by omega) (by omega)).mp z
      omega
    rw [eMo_prepare_297, if_neg n1]
    simp only [h.f9, h.f10, h.g8 (show N + 1 < 41 by omega), hA, Mo_has (show n < 64 by omega), Option.bind_some, h.g9 (show N + 1 < 41 by omega), h.g9 (show n < 41 by omega), h9 n h1 (by omega), eMo_prepare_341, nI1]
    have hu1 : chn E A n (d + 1) (L 9 (N + 1)) = chn E A (n + 1) d (if hb A n = true then L 9 (N + 1) ||| eC E n else L 9 (N + 1)) := rfl
    rw [hu1]
    cases hx : hb A n
    · rw [if_neg (show ¬ (false = true) by decide), if_pos rfl, if_neg (show ¬ (false = true) by decide)]
      exact ih (n + 1) σ L (by omega) (by omega) h h9 hA
    · rw [if_pos rfl, if_neg (show ¬ ((1 : Int32) = 0) by decide), if_pos rfl]
      obtain ⟨σ1, w1, v1, f1⟩ := h.wJ 9 (by decide) (by decide) (fun J => rfl) (show N + 1 < mlen 9 from (by show N + 1 < 41; omega)) (L 9 (N + 1) ||| eC E n)
      obtain ⟨σ2, w2, v2, f2⟩ := ih (n + 1) σ1 _ (by omega) (by omega) v1 (fun i i1 i2 => by rw [upN (by omega)]; exact h9 i i1 i2) (by rw [va_up_ne _ _ (show 8 ≠ 9 by decide)]; exact hA)
      rw [va_up_self, va_up_self, up_up, up_up] at v2
      refine ⟨σ2, ?_, v2, f1.tr f2⟩
      rw [w1]
      exact w2
end MPR
